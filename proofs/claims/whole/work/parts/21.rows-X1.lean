set_option maxRecDepth 20000 in
theorem ggX1_init_X10_init : GoodIn wsX1_init wsX10_init := goodIn_r _ [9, 10, 11, 12] rfl (by decide +kernel)
set_option maxRecDepth 20000 in
theorem gX1_init_X10_init_n1 : GoodIn wsX1_init (wsX10_init) := ggX1_init_X10_init
theorem dX1_init_0 : decode cX1_init 0 = .ok (.aload_n 0, 1) := by decide +kernel
theorem dX1_init_1 : decode cX1_init 1 = .ok (.invokespecial 1, 3) := by decide +kernel
theorem dX1_init_4 : decode cX1_init 4 = .ok (.aload_n 0, 1) := by decide +kernel
theorem dX1_init_5 : decode cX1_init 5 = .ok (.iconst 0, 1) := by decide +kernel
theorem dX1_init_6 : decode cX1_init 6 = .ok (.putfield 7, 3) := by decide +kernel
theorem dX1_init_9 : decode cX1_init 9 = .ok (.aload_n 0, 1) := by decide +kernel
theorem dX1_init_10 : decode cX1_init 10 = .ok (.iconst 0, 1) := by decide +kernel
theorem dX1_init_11 : decode cX1_init 11 = .ok (.putfield 13, 3) := by decide +kernel
theorem dX1_init_14 : decode cX1_init 14 = .ok (.aload_n 0, 1) := by decide +kernel
theorem dX1_init_15 : decode cX1_init 15 = .ok (.iconst 0, 1) := by decide +kernel
theorem dX1_init_16 : decode cX1_init 16 = .ok (.putfield 16, 3) := by decide +kernel
theorem dX1_init_19 : decode cX1_init 19 = .ok (.aload_n 0, 1) := by decide +kernel
theorem dX1_init_20 : decode cX1_init 20 = .ok (.iconst 0, 1) := by decide +kernel
theorem dX1_init_21 : decode cX1_init 21 = .ok (.putfield 19, 3) := by decide +kernel
theorem dX1_init_24 : decode cX1_init 24 = .ok (.aload_n 0, 1) := by decide +kernel
theorem dX1_init_25 : decode cX1_init 25 = .ok (.aload_n 1, 1) := by decide +kernel
theorem dX1_init_26 : decode cX1_init 26 = .ok (.putfield 22, 3) := by decide +kernel
theorem dX1_init_29 : decode cX1_init 29 = .ok (.aload_n 0, 1) := by decide +kernel
theorem dX1_init_30 : decode cX1_init 30 = .ok (.aload_n 2, 1) := by decide +kernel
theorem dX1_init_31 : decode cX1_init 31 = .ok (.putfield 26, 3) := by decide +kernel
theorem dX1_init_34 : decode cX1_init 34 = .ok (.return_, 1) := by decide +kernel
set_option maxRecDepth 20000 in
theorem ggX1_begin_X0_see : GoodIn wsX1_begin wsX0_see := goodIn_r _ [10, 11, 12, 13, 14, 21, 22, 23, 24, 25, 26, 27, 28, 29, 30, 31, 32, 33, 34, 35, 36] rfl (by decide +kernel)
set_option maxRecDepth 20000 in
theorem gX1_begin_X0_see : GoodIn wsX1_begin (wsV RX1 32 RX0 yX0_see wsX0_see) := goodIn_app (goodIn_of _ (by decide +kernel)) ggX1_begin_X0_see
theorem dX1_begin_0 : decode cX1_begin 0 = .ok (.aload_n 0, 1) := by decide +kernel
theorem dX1_begin_1 : decode cX1_begin 1 = .ok (.iload_n 1, 1) := by decide +kernel
theorem dX1_begin_2 : decode cX1_begin 2 = .ok (.putfield 13, 3) := by decide +kernel
theorem dX1_begin_5 : decode cX1_begin 5 = .ok (.aload_n 0, 1) := by decide +kernel
theorem dX1_begin_6 : decode cX1_begin 6 = .ok (.aload_n 0, 1) := by decide +kernel
theorem dX1_begin_7 : decode cX1_begin 7 = .ok (.getfield 22, 3) := by decide +kernel
theorem dX1_begin_10 : decode cX1_begin 10 = .ok (.bipush 29, 2) := by decide +kernel
theorem dX1_begin_12 : decode cX1_begin 12 = .ok (.iload_n 1, 1) := by decide +kernel
theorem dX1_begin_13 : decode cX1_begin 13 = .ok (.invokevirtual 32, 3) := by decide +kernel
theorem dX1_begin_16 : decode cX1_begin 16 = .ok (.putfield 16, 3) := by decide +kernel
theorem dX1_begin_19 : decode cX1_begin 19 = .ok (.aload_n 0, 1) := by decide +kernel
theorem dX1_begin_20 : decode cX1_begin 20 = .ok (.aload_n 0, 1) := by decide +kernel
theorem dX1_begin_21 : decode cX1_begin 21 = .ok (.getfield 22, 3) := by decide +kernel
theorem dX1_begin_24 : decode cX1_begin 24 = .ok (.bipush 24, 2) := by decide +kernel
theorem dX1_begin_26 : decode cX1_begin 26 = .ok (.iload_n 1, 1) := by decide +kernel
theorem dX1_begin_27 : decode cX1_begin 27 = .ok (.invokevirtual 32, 3) := by decide +kernel
theorem dX1_begin_30 : decode cX1_begin 30 = .ok (.putfield 7, 3) := by decide +kernel
theorem dX1_begin_33 : decode cX1_begin 33 = .ok (.aload_n 0, 1) := by decide +kernel
theorem dX1_begin_34 : decode cX1_begin 34 = .ok (.iload_n 2, 1) := by decide +kernel
theorem dX1_begin_35 : decode cX1_begin 35 = .ok (.putfield 19, 3) := by decide +kernel
theorem dX1_begin_38 : decode cX1_begin 38 = .ok (.aload_n 0, 1) := by decide +kernel
theorem dX1_begin_39 : decode cX1_begin 39 = .ok (.getfield 22, 3) := by decide +kernel
theorem dX1_begin_42 : decode cX1_begin 42 = .ok (.bipush 6, 2) := by decide +kernel
theorem dX1_begin_44 : decode cX1_begin 44 = .ok (.aload_n 0, 1) := by decide +kernel
theorem dX1_begin_45 : decode cX1_begin 45 = .ok (.getfield 16, 3) := by decide +kernel
theorem dX1_begin_48 : decode cX1_begin 48 = .ok (.invokevirtual 32, 3) := by decide +kernel
theorem dX1_begin_51 : decode cX1_begin 51 = .ok (.bipush 100, 2) := by decide +kernel
theorem dX1_begin_53 : decode cX1_begin 53 = .ok (.imul, 1) := by decide +kernel
theorem dX1_begin_54 : decode cX1_begin 54 = .ok (.aload_n 0, 1) := by decide +kernel
theorem dX1_begin_55 : decode cX1_begin 55 = .ok (.getfield 22, 3) := by decide +kernel
theorem dX1_begin_58 : decode cX1_begin 58 = .ok (.iconst 0, 1) := by decide +kernel
theorem dX1_begin_59 : decode cX1_begin 59 = .ok (.aload_n 0, 1) := by decide +kernel
theorem dX1_begin_60 : decode cX1_begin 60 = .ok (.getfield 16, 3) := by decide +kernel
theorem dX1_begin_63 : decode cX1_begin 63 = .ok (.invokevirtual 32, 3) := by decide +kernel
theorem dX1_begin_66 : decode cX1_begin 66 = .ok (.iadd, 1) := by decide +kernel
theorem dX1_begin_67 : decode cX1_begin 67 = .ok (.ireturn, 1) := by decide +kernel
set_option maxRecDepth 20000 in
theorem ggX1_moved_X1_become : GoodIn wsX1_moved wsX1_become := goodIn_r _ [13, 8, 14, 3, 15, 16, 17, 18, 19, 20, 21, 22, 23, 114, 115, 116, 117, 118, 119, 120, 121, 122, 123, 124, 125, 126, 127, 128, 129, 130, 131, 132, 133, 134, 135] rfl (by decide +kernel)
set_option maxRecDepth 20000 in
theorem gX1_moved_X1_become : GoodIn wsX1_moved (wsV RX1 36 RX1 yX1_become wsX1_become) := goodIn_app (goodIn_of _ (by decide +kernel)) ggX1_moved_X1_become
set_option maxRecDepth 20000 in
theorem ggX1_moved_X3_easing : GoodIn wsX1_moved wsX3_easing := goodIn_r _ [28, 29, 30, 31, 32, 33, 34, 18, 35, 36, 37, 38, 39, 40, 41, 42, 43, 44, 45, 46, 47, 48, 22, 49, 50, 51, 52, 53, 54, 55, 56, 57, 20, 58, 59, 60, 27, 61, 62, 63, 64, 65, 66, 67, 21, 23, 68, 69, 70, 71, 72, 73, 74, 75, 76, 77, 78, 79, 80, 81, 82, 83, 84, 85, 86, 87, 88, 89, 90, 91, 92, 93, 94, 95, 96, 97, 98, 99, 100, 101, 102, 103, 104, 105, 106, 107, 108, 136, 137, 138, 139, 120, 121, 122, 123, 124, 125, 126, 127, 128, 129, 130, 131, 132, 133, 134, 135, 140, 141, 142, 143] rfl (by decide +kernel)
set_option maxRecDepth 20000 in
theorem gX1_moved_X3_easing : GoodIn wsX1_moved (wsV RX1 40 RX3 yX3_easing wsX3_easing) := goodIn_app (goodIn_of _ (by decide +kernel)) ggX1_moved_X3_easing
set_option maxRecDepth 20000 in
theorem ggX1_moved_X0_turned : GoodIn wsX1_moved wsX0_turned := goodIn_r _ [112, 113, 48, 22, 49, 120, 121, 122, 123, 124, 125, 126, 127, 128, 129, 130, 131, 132, 133, 134, 135] rfl (by decide +kernel)
set_option maxRecDepth 20000 in
theorem gX1_moved_X0_turned : GoodIn wsX1_moved (wsV RX1 50 RX0 yX0_turned wsX0_turned) := goodIn_app (goodIn_of _ (by decide +kernel)) ggX1_moved_X0_turned
theorem dX1_moved_0 : decode cX1_moved 0 = .ok (.aload_n 0, 1) := by decide +kernel
theorem dX1_moved_1 : decode cX1_moved 1 = .ok (.iload_n 1, 1) := by decide +kernel
theorem dX1_moved_2 : decode cX1_moved 2 = .ok (.aload_n 0, 1) := by decide +kernel
theorem dX1_moved_3 : decode cX1_moved 3 = .ok (.getfield 7, 3) := by decide +kernel
theorem dX1_moved_6 : decode cX1_moved 6 = .ok (.iload_n 3, 1) := by decide +kernel
theorem dX1_moved_7 : decode cX1_moved 7 = .ok (.iadd, 1) := by decide +kernel
theorem dX1_moved_8 : decode cX1_moved 8 = .ok (.invokevirtual 36, 3) := by decide +kernel
theorem dX1_moved_11 : decode cX1_moved 11 = .ok (.iload_n 1, 1) := by decide +kernel
theorem dX1_moved_12 : decode cX1_moved 12 = .ok (.bipush 100, 2) := by decide +kernel
theorem dX1_moved_14 : decode cX1_moved 14 = .ok (.irem, 1) := by decide +kernel
theorem dX1_moved_15 : decode cX1_moved 15 = .ok (.aload_n 0, 1) := by decide +kernel
theorem dX1_moved_16 : decode cX1_moved 16 = .ok (.getfield 26, 3) := by decide +kernel
theorem dX1_moved_19 : decode cX1_moved 19 = .ok (.aload_n 0, 1) := by decide +kernel
theorem dX1_moved_20 : decode cX1_moved 20 = .ok (.getfield 13, 3) := by decide +kernel
theorem dX1_moved_23 : decode cX1_moved 23 = .ok (.iload_n 2, 1) := by decide +kernel
theorem dX1_moved_24 : decode cX1_moved 24 = .ok (.invokevirtual 40, 3) := by decide +kernel
theorem dX1_moved_27 : decode cX1_moved 27 = .ok (.isub, 1) := by decide +kernel
theorem dX1_moved_28 : decode cX1_moved 28 = .ok (.iconst 0, 1) := by decide +kernel
theorem dX1_moved_29 : decode cX1_moved 29 = .ok (.invokestatic 45, 3) := by decide +kernel
theorem dX1_moved_32 : decode cX1_moved 32 = .ok (.istore 4, 2) := by decide +kernel
theorem dX1_moved_34 : decode cX1_moved 34 = .ok (.aload_n 0, 1) := by decide +kernel
theorem dX1_moved_35 : decode cX1_moved 35 = .ok (.getfield 22, 3) := by decide +kernel
theorem dX1_moved_38 : decode cX1_moved 38 = .ok (.iload_n 2, 1) := by decide +kernel
theorem dX1_moved_39 : decode cX1_moved 39 = .ok (.iload_n 1, 1) := by decide +kernel
theorem dX1_moved_40 : decode cX1_moved 40 = .ok (.bipush 100, 2) := by decide +kernel
theorem dX1_moved_42 : decode cX1_moved 42 = .ok (.idiv, 1) := by decide +kernel
theorem dX1_moved_43 : decode cX1_moved 43 = .ok (.invokevirtual 50, 3) := by decide +kernel
theorem dX1_moved_46 : decode cX1_moved 46 = .ok (.bipush 100, 2) := by decide +kernel
theorem dX1_moved_48 : decode cX1_moved 48 = .ok (.imul, 1) := by decide +kernel
theorem dX1_moved_49 : decode cX1_moved 49 = .ok (.iload 4, 2) := by decide +kernel
theorem dX1_moved_51 : decode cX1_moved 51 = .ok (.iadd, 1) := by decide +kernel
theorem dX1_moved_52 : decode cX1_moved 52 = .ok (.ireturn, 1) := by decide +kernel
theorem dX1_arrived_0 : decode cX1_arrived 0 = .ok (.iload_n 1, 1) := by decide +kernel
theorem dX1_arrived_1 : decode cX1_arrived 1 = .ok (.bipush 100, 2) := by decide +kernel
theorem dX1_arrived_3 : decode cX1_arrived 3 = .ok (.irem, 1) := by decide +kernel
theorem dX1_arrived_4 : decode cX1_arrived 4 = .ok (.aload_n 0, 1) := by decide +kernel
theorem dX1_arrived_5 : decode cX1_arrived 5 = .ok (.getfield 19, 3) := by decide +kernel
theorem dX1_arrived_8 : decode cX1_arrived 8 = .ok (.if_icmp .gt 7, 3) := by decide +kernel
theorem dX1_arrived_11 : decode cX1_arrived 11 = .ok (.iconst 1, 1) := by decide +kernel
theorem dX1_arrived_12 : decode cX1_arrived 12 = .ok (.goto 4, 3) := by decide +kernel
theorem dX1_arrived_15 : decode cX1_arrived 15 = .ok (.iconst 0, 1) := by decide +kernel
theorem dX1_arrived_16 : decode cX1_arrived 16 = .ok (.ireturn, 1) := by decide +kernel
theorem dX1_changes_0 : decode cX1_changes 0 = .ok (.iconst 1, 1) := by decide +kernel
theorem dX1_changes_1 : decode cX1_changes 1 = .ok (.ireturn, 1) := by decide +kernel
set_option maxRecDepth 20000 in
theorem ggX1_leaveAsItWas_X1_become : GoodIn wsX1_leaveAsItWas wsX1_become := goodIn_r _ [6, 7, 8, 9, 10, 11, 12, 13, 14, 15, 16, 17, 18, 19, 20, 21, 22, 23, 24, 25, 26, 27, 28, 29, 30, 31, 32, 33, 34, 35, 36, 37, 38, 39, 40] rfl (by decide +kernel)
set_option maxRecDepth 20000 in
theorem gX1_leaveAsItWas_X1_become : GoodIn wsX1_leaveAsItWas (wsV RX1 36 RX1 yX1_become wsX1_become) := goodIn_app (goodIn_of _ (by decide +kernel)) ggX1_leaveAsItWas_X1_become
theorem dX1_leaveAsItWas_0 : decode cX1_leaveAsItWas 0 = .ok (.aload_n 0, 1) := by decide +kernel
theorem dX1_leaveAsItWas_1 : decode cX1_leaveAsItWas 1 = .ok (.iload_n 1, 1) := by decide +kernel
theorem dX1_leaveAsItWas_2 : decode cX1_leaveAsItWas 2 = .ok (.aload_n 0, 1) := by decide +kernel
theorem dX1_leaveAsItWas_3 : decode cX1_leaveAsItWas 3 = .ok (.getfield 7, 3) := by decide +kernel
theorem dX1_leaveAsItWas_6 : decode cX1_leaveAsItWas 6 = .ok (.invokevirtual 36, 3) := by decide +kernel
theorem dX1_leaveAsItWas_9 : decode cX1_leaveAsItWas 9 = .ok (.return_, 1) := by decide +kernel
set_option maxRecDepth 20000 in
theorem ggX1_become_X0_set : GoodIn wsX1_become wsX0_set := goodIn_r _ [8, 9, 10, 11, 12, 19, 20, 21, 22, 23, 24, 25, 26, 27, 28, 29, 30, 31, 32, 33, 34] rfl (by decide +kernel)
set_option maxRecDepth 20000 in
theorem gX1_become_X0_set : GoodIn wsX1_become (wsV RX1 53 RX0 yX0_set wsX0_set) := goodIn_app (goodIn_of _ (by decide +kernel)) ggX1_become_X0_set
theorem dX1_become_0 : decode cX1_become 0 = .ok (.aload_n 0, 1) := by decide +kernel
theorem dX1_become_1 : decode cX1_become 1 = .ok (.getfield 22, 3) := by decide +kernel
theorem dX1_become_4 : decode cX1_become 4 = .ok (.bipush 6, 2) := by decide +kernel
theorem dX1_become_6 : decode cX1_become 6 = .ok (.aload_n 0, 1) := by decide +kernel
theorem dX1_become_7 : decode cX1_become 7 = .ok (.getfield 16, 3) := by decide +kernel
theorem dX1_become_10 : decode cX1_become 10 = .ok (.iload_n 1, 1) := by decide +kernel
theorem dX1_become_11 : decode cX1_become 11 = .ok (.bipush 100, 2) := by decide +kernel
theorem dX1_become_13 : decode cX1_become 13 = .ok (.idiv, 1) := by decide +kernel
theorem dX1_become_14 : decode cX1_become 14 = .ok (.invokevirtual 53, 3) := by decide +kernel
theorem dX1_become_17 : decode cX1_become 17 = .ok (.aload_n 0, 1) := by decide +kernel
theorem dX1_become_18 : decode cX1_become 18 = .ok (.getfield 22, 3) := by decide +kernel
theorem dX1_become_21 : decode cX1_become 21 = .ok (.iconst 0, 1) := by decide +kernel
theorem dX1_become_22 : decode cX1_become 22 = .ok (.aload_n 0, 1) := by decide +kernel
theorem dX1_become_23 : decode cX1_become 23 = .ok (.getfield 16, 3) := by decide +kernel
theorem dX1_become_26 : decode cX1_become 26 = .ok (.iload_n 1, 1) := by decide +kernel
theorem dX1_become_27 : decode cX1_become 27 = .ok (.bipush 100, 2) := by decide +kernel
theorem dX1_become_29 : decode cX1_become 29 = .ok (.irem, 1) := by decide +kernel
theorem dX1_become_30 : decode cX1_become 30 = .ok (.invokevirtual 53, 3) := by decide +kernel
theorem dX1_become_33 : decode cX1_become 33 = .ok (.aload_n 0, 1) := by decide +kernel
theorem dX1_become_34 : decode cX1_become 34 = .ok (.getfield 22, 3) := by decide +kernel
theorem dX1_become_37 : decode cX1_become 37 = .ok (.bipush 24, 2) := by decide +kernel
theorem dX1_become_39 : decode cX1_become 39 = .ok (.aload_n 0, 1) := by decide +kernel
theorem dX1_become_40 : decode cX1_become 40 = .ok (.getfield 13, 3) := by decide +kernel
theorem dX1_become_43 : decode cX1_become 43 = .ok (.iload_n 2, 1) := by decide +kernel
theorem dX1_become_44 : decode cX1_become 44 = .ok (.invokevirtual 53, 3) := by decide +kernel
theorem dX1_become_47 : decode cX1_become 47 = .ok (.return_, 1) := by decide +kernel
theorem dX2_init_0 : decode cX2_init 0 = .ok (.aload_n 0, 1) := by decide +kernel
theorem dX2_init_1 : decode cX2_init 1 = .ok (.invokespecial 3, 3) := by decide +kernel
theorem dX2_init_4 : decode cX2_init 4 = .ok (.aload_n 0, 1) := by decide +kernel
theorem dX2_init_5 : decode cX2_init 5 = .ok (.bipush 74, 2) := by decide +kernel
theorem dX2_init_7 : decode cX2_init 7 = .ok (.newarray .int, 2) := by decide +kernel
theorem dX2_init_9 : decode cX2_init 9 = .ok (.putfield 11, 3) := by decide +kernel
theorem dX2_init_12 : decode cX2_init 12 = .ok (.aload_n 0, 1) := by decide +kernel
theorem dX2_init_13 : decode cX2_init 13 = .ok (.aload_n 1, 1) := by decide +kernel
theorem dX2_init_14 : decode cX2_init 14 = .ok (.putfield 17, 3) := by decide +kernel
theorem dX2_init_17 : decode cX2_init 17 = .ok (.aload_n 0, 1) := by decide +kernel
theorem dX2_init_18 : decode cX2_init 18 = .ok (.aload_n 2, 1) := by decide +kernel
theorem dX2_init_19 : decode cX2_init 19 = .ok (.putfield 21, 3) := by decide +kernel
theorem dX2_init_22 : decode cX2_init 22 = .ok (.return_, 1) := by decide +kernel
set_option maxRecDepth 20000 in
theorem ggX2_canGo_X0_hasClown : GoodIn wsX2_canGo wsX0_hasClown := goodIn_r _ [6, 7, 8, 9, 10, 22, 23, 24, 25, 26, 27, 28, 29, 30, 31, 32, 33, 34, 35, 36, 37] rfl (by decide +kernel)
set_option maxRecDepth 20000 in
theorem gX2_canGo_X0_hasClown : GoodIn wsX2_canGo (wsV RX2 25 RX0 yX0_hasClown wsX0_hasClown) := goodIn_app (goodIn_of _ (by decide +kernel)) ggX2_canGo_X0_hasClown
set_option maxRecDepth 20000 in
theorem ggX2_canGo_X0_hasHouse : GoodIn wsX2_canGo wsX0_hasHouse := goodIn_r _ [14, 7, 8, 9, 10, 22, 23, 24, 25, 26, 27, 28, 29, 30, 31, 32, 33, 34, 35, 36, 37] rfl (by decide +kernel)
set_option maxRecDepth 20000 in
theorem gX2_canGo_X0_hasHouse : GoodIn wsX2_canGo (wsV RX2 29 RX0 yX0_hasHouse wsX0_hasHouse) := goodIn_app (goodIn_of _ (by decide +kernel)) ggX2_canGo_X0_hasHouse
set_option maxRecDepth 20000 in
theorem ggX2_canGo_X0_see : GoodIn wsX2_canGo wsX0_see := goodIn_r _ [18, 7, 8, 9, 10, 22, 23, 24, 25, 26, 27, 28, 29, 30, 31, 32, 33, 34, 35, 36, 37] rfl (by decide +kernel)
set_option maxRecDepth 20000 in
theorem gX2_canGo_X0_see : GoodIn wsX2_canGo (wsV RX2 32 RX0 yX0_see wsX0_see) := goodIn_app (goodIn_of _ (by decide +kernel)) ggX2_canGo_X0_see
theorem dX2_canGo_0 : decode cX2_canGo 0 = .ok (.aload_n 0, 1) := by decide +kernel
theorem dX2_canGo_1 : decode cX2_canGo 1 = .ok (.getfield 17, 3) := by decide +kernel
theorem dX2_canGo_4 : decode cX2_canGo 4 = .ok (.iload_n 1, 1) := by decide +kernel
theorem dX2_canGo_5 : decode cX2_canGo 5 = .ok (.invokevirtual 25, 3) := by decide +kernel
theorem dX2_canGo_8 : decode cX2_canGo 8 = .ok (.ifCond .eq 32, 3) := by decide +kernel
theorem dX2_canGo_11 : decode cX2_canGo 11 = .ok (.aload_n 0, 1) := by decide +kernel
theorem dX2_canGo_12 : decode cX2_canGo 12 = .ok (.getfield 17, 3) := by decide +kernel
theorem dX2_canGo_15 : decode cX2_canGo 15 = .ok (.iload_n 2, 1) := by decide +kernel
theorem dX2_canGo_16 : decode cX2_canGo 16 = .ok (.invokevirtual 29, 3) := by decide +kernel
theorem dX2_canGo_19 : decode cX2_canGo 19 = .ok (.ifCond .eq 21, 3) := by decide +kernel
theorem dX2_canGo_22 : decode cX2_canGo 22 = .ok (.aload_n 0, 1) := by decide +kernel
theorem dX2_canGo_23 : decode cX2_canGo 23 = .ok (.getfield 17, 3) := by decide +kernel
theorem dX2_canGo_26 : decode cX2_canGo 26 = .ok (.bipush 29, 2) := by decide +kernel
theorem dX2_canGo_28 : decode cX2_canGo 28 = .ok (.iload_n 1, 1) := by decide +kernel
theorem dX2_canGo_29 : decode cX2_canGo 29 = .ok (.invokevirtual 32, 3) := by decide +kernel
theorem dX2_canGo_32 : decode cX2_canGo 32 = .ok (.iload_n 2, 1) := by decide +kernel
theorem dX2_canGo_33 : decode cX2_canGo 33 = .ok (.if_icmp .eq 7, 3) := by decide +kernel
theorem dX2_canGo_36 : decode cX2_canGo 36 = .ok (.iconst 1, 1) := by decide +kernel
theorem dX2_canGo_37 : decode cX2_canGo 37 = .ok (.goto 4, 3) := by decide +kernel
theorem dX2_canGo_40 : decode cX2_canGo 40 = .ok (.iconst 0, 1) := by decide +kernel
theorem dX2_canGo_41 : decode cX2_canGo 41 = .ok (.ireturn, 1) := by decide +kernel
set_option maxRecDepth 20000 in
theorem ggX2_canRest_X0_isOut : GoodIn wsX2_canRest wsX0_isOut := goodIn_r _ [6, 7, 8, 9, 5, 10, 11, 12, 13, 14, 15, 16, 17, 18, 22, 23, 24, 25, 26, 27, 28, 29, 30, 31, 32, 33, 34, 35, 36, 37] rfl (by decide +kernel)
set_option maxRecDepth 20000 in
theorem gX2_canRest_X0_isOut : GoodIn wsX2_canRest (wsV RX2 36 RX0 yX0_isOut wsX0_isOut) := goodIn_app (goodIn_of _ (by decide +kernel)) ggX2_canRest_X0_isOut
theorem dX2_canRest_0 : decode cX2_canRest 0 = .ok (.aload_n 0, 1) := by decide +kernel
theorem dX2_canRest_1 : decode cX2_canRest 1 = .ok (.getfield 17, 3) := by decide +kernel
theorem dX2_canRest_4 : decode cX2_canRest 4 = .ok (.iload_n 1, 1) := by decide +kernel
theorem dX2_canRest_5 : decode cX2_canRest 5 = .ok (.invokevirtual 36, 3) := by decide +kernel
theorem dX2_canRest_8 : decode cX2_canRest 8 = .ok (.ireturn, 1) := by decide +kernel
set_option maxRecDepth 20000 in
theorem ggX2_canFall_X11_isFall : GoodIn wsX2_canFall wsX11_isFall := goodIn_r _ [4, 5, 6, 3, 7] rfl (by decide +kernel)
set_option maxRecDepth 20000 in
theorem gX2_canFall_X11_isFall_n39 : GoodIn wsX2_canFall (wsX11_isFall) := ggX2_canFall_X11_isFall
set_option maxRecDepth 20000 in
theorem ggX2_canFall_X0_isOut : GoodIn wsX2_canFall wsX0_isOut := goodIn_r _ [12, 13, 14, 15, 11, 16, 17, 18, 3, 19, 20, 21, 22, 23, 28, 29, 30, 31, 32, 33, 34, 35, 36, 37, 38, 39, 40, 41, 42, 43] rfl (by decide +kernel)
set_option maxRecDepth 20000 in
theorem gX2_canFall_X0_isOut : GoodIn wsX2_canFall (wsV RX2 36 RX0 yX0_isOut wsX0_isOut) := goodIn_app (goodIn_of _ (by decide +kernel)) ggX2_canFall_X0_isOut
set_option maxRecDepth 20000 in
theorem ggX2_canFall_X0_see : GoodIn wsX2_canFall wsX0_see := goodIn_r _ [23, 17, 18, 3, 19, 28, 29, 30, 31, 32, 33, 34, 35, 36, 37, 38, 39, 40, 41, 42, 43] rfl (by decide +kernel)
set_option maxRecDepth 20000 in
theorem gX2_canFall_X0_see : GoodIn wsX2_canFall (wsV RX2 32 RX0 yX0_see wsX0_see) := goodIn_app (goodIn_of _ (by decide +kernel)) ggX2_canFall_X0_see
theorem dX2_canFall_0 : decode cX2_canFall 0 = .ok (.iload_n 2, 1) := by decide +kernel
theorem dX2_canFall_1 : decode cX2_canFall 1 = .ok (.invokestatic 39, 3) := by decide +kernel
theorem dX2_canFall_4 : decode cX2_canFall 4 = .ok (.ifCond .eq 33, 3) := by decide +kernel
theorem dX2_canFall_7 : decode cX2_canFall 7 = .ok (.aload_n 0, 1) := by decide +kernel
theorem dX2_canFall_8 : decode cX2_canFall 8 = .ok (.getfield 17, 3) := by decide +kernel
theorem dX2_canFall_11 : decode cX2_canFall 11 = .ok (.iload_n 1, 1) := by decide +kernel
theorem dX2_canFall_12 : decode cX2_canFall 12 = .ok (.invokevirtual 36, 3) := by decide +kernel
theorem dX2_canFall_15 : decode cX2_canFall 15 = .ok (.ifCond .eq 22, 3) := by decide +kernel
theorem dX2_canFall_18 : decode cX2_canFall 18 = .ok (.aload_n 0, 1) := by decide +kernel
theorem dX2_canFall_19 : decode cX2_canFall 19 = .ok (.getfield 17, 3) := by decide +kernel
theorem dX2_canFall_22 : decode cX2_canFall 22 = .ok (.bipush 24, 2) := by decide +kernel
theorem dX2_canFall_24 : decode cX2_canFall 24 = .ok (.iload_n 1, 1) := by decide +kernel
theorem dX2_canFall_25 : decode cX2_canFall 25 = .ok (.invokevirtual 32, 3) := by decide +kernel
theorem dX2_canFall_28 : decode cX2_canFall 28 = .ok (.bipush 9, 2) := by decide +kernel
theorem dX2_canFall_30 : decode cX2_canFall 30 = .ok (.if_icmp .ge 7, 3) := by decide +kernel
theorem dX2_canFall_33 : decode cX2_canFall 33 = .ok (.iconst 1, 1) := by decide +kernel
theorem dX2_canFall_34 : decode cX2_canFall 34 = .ok (.goto 4, 3) := by decide +kernel
theorem dX2_canFall_37 : decode cX2_canFall 37 = .ok (.iconst 0, 1) := by decide +kernel
theorem dX2_canFall_38 : decode cX2_canFall 38 = .ok (.ireturn, 1) := by decide +kernel
set_option maxRecDepth 20000 in
theorem ggX2_canPass_X0_today : GoodIn wsX2_canPass wsX0_today := goodIn_r _ [6, 7, 8, 9, 10, 14, 15, 16, 17, 18, 19, 20, 21, 22, 23, 24, 25, 26, 27, 28, 29] rfl (by decide +kernel)
set_option maxRecDepth 20000 in
theorem gX2_canPass_X0_today : GoodIn wsX2_canPass (wsV RX2 42 RX0 yX0_today wsX0_today) := goodIn_app (goodIn_of _ (by decide +kernel)) ggX2_canPass_X0_today
theorem dX2_canPass_0 : decode cX2_canPass 0 = .ok (.aload_n 0, 1) := by decide +kernel
theorem dX2_canPass_1 : decode cX2_canPass 1 = .ok (.getfield 17, 3) := by decide +kernel
theorem dX2_canPass_4 : decode cX2_canPass 4 = .ok (.invokevirtual 42, 3) := by decide +kernel
theorem dX2_canPass_7 : decode cX2_canPass 7 = .ok (.sipush 9999, 3) := by decide +kernel
theorem dX2_canPass_10 : decode cX2_canPass 10 = .ok (.if_icmp .ge 7, 3) := by decide +kernel
theorem dX2_canPass_13 : decode cX2_canPass 13 = .ok (.iconst 1, 1) := by decide +kernel
theorem dX2_canPass_14 : decode cX2_canPass 14 = .ok (.goto 4, 3) := by decide +kernel
theorem dX2_canPass_17 : decode cX2_canPass 17 = .ok (.iconst 0, 1) := by decide +kernel
theorem dX2_canPass_18 : decode cX2_canPass 18 = .ok (.ireturn, 1) := by decide +kernel
set_option maxRecDepth 20000 in
theorem ggX2_goes_X0_set : GoodIn wsX2_goes wsX0_set := goodIn_r _ [6, 7, 8, 9, 10, 14, 15, 16, 17, 18, 19, 20, 21, 22, 23, 24, 25, 26, 27, 28, 29] rfl (by decide +kernel)
set_option maxRecDepth 20000 in
theorem gX2_goes_X0_set : GoodIn wsX2_goes (wsV RX2 46 RX0 yX0_set wsX0_set) := goodIn_app (goodIn_of _ (by decide +kernel)) ggX2_goes_X0_set
theorem dX2_goes_0 : decode cX2_goes 0 = .ok (.aload_n 0, 1) := by decide +kernel
theorem dX2_goes_1 : decode cX2_goes 1 = .ok (.getfield 17, 3) := by decide +kernel
theorem dX2_goes_4 : decode cX2_goes 4 = .ok (.bipush 29, 2) := by decide +kernel
theorem dX2_goes_6 : decode cX2_goes 6 = .ok (.iload_n 1, 1) := by decide +kernel
theorem dX2_goes_7 : decode cX2_goes 7 = .ok (.iload_n 2, 1) := by decide +kernel
theorem dX2_goes_8 : decode cX2_goes 8 = .ok (.invokevirtual 46, 3) := by decide +kernel
theorem dX2_goes_11 : decode cX2_goes 11 = .ok (.return_, 1) := by decide +kernel
set_option maxRecDepth 20000 in
theorem ggX2_falls_X0_see : GoodIn wsX2_falls wsX0_see := goodIn_r _ [11, 12, 13, 14, 15, 138, 139, 140, 141, 142, 143, 144, 145, 146, 147, 148, 149, 150, 151, 152, 153] rfl (by decide +kernel)
set_option maxRecDepth 20000 in
theorem gX2_falls_X0_see : GoodIn wsX2_falls (wsV RX2 32 RX0 yX0_see wsX0_see) := goodIn_app (goodIn_of _ (by decide +kernel)) ggX2_falls_X0_see
set_option maxRecDepth 20000 in
theorem ggX2_falls_X3_easing : GoodIn wsX2_falls wsX3_easing := goodIn_r _ [20, 21, 22, 23, 24, 25, 26, 10, 27, 28, 29, 30, 31, 32, 33, 34, 35, 36, 37, 38, 39, 13, 14, 15, 40, 41, 42, 43, 44, 8, 9, 11, 12, 45, 46, 47, 19, 48, 49, 50, 51, 52, 53, 54, 55, 56, 57, 58, 59, 60, 61, 62, 63, 64, 65, 66, 67, 68, 69, 70, 71, 72, 73, 74, 75, 76, 77, 78, 79, 80, 81, 82, 83, 84, 85, 86, 87, 88, 89, 90, 91, 92, 93, 94, 95, 96, 97, 154, 155, 156, 157, 138, 139, 140, 141, 142, 143, 144, 145, 146, 147, 148, 149, 150, 151, 152, 153, 158, 159, 160, 161] rfl (by decide +kernel)
set_option maxRecDepth 20000 in
theorem gX2_falls_X3_easing : GoodIn wsX2_falls (wsV RX2 50 RX3 yX3_easing wsX3_easing) := goodIn_app (goodIn_of _ (by decide +kernel)) ggX2_falls_X3_easing
set_option maxRecDepth 20000 in
theorem ggX2_falls_X2_moves : GoodIn wsX2_falls wsX2_moves := goodIn_r _ [102, 1, 103, 104, 5, 105, 7, 8, 9, 10, 11, 12, 13, 14, 15, 106, 107, 108, 109, 55, 56, 110, 111, 112, 113, 114, 135, 136, 137, 138, 139, 140, 141, 142, 143, 144, 145, 146, 147, 148, 149, 150, 151, 152, 153] rfl (by decide +kernel)
set_option maxRecDepth 20000 in
theorem gX2_falls_X2_moves : GoodIn wsX2_falls (wsV RX2 55 RX2 yX2_moves wsX2_moves) := goodIn_app (goodIn_of _ (by decide +kernel)) ggX2_falls_X2_moves
set_option maxRecDepth 20000 in
theorem ggX2_falls_X2_draws : GoodIn wsX2_falls wsX2_draws := goodIn_r _ [118, 1, 7, 8, 9, 10, 11, 12, 13, 14, 15, 106, 107, 108, 109, 55, 56, 135, 136, 137, 138, 139, 140, 141, 142, 143, 144, 145, 146, 147, 148, 149, 150, 151, 152, 153] rfl (by decide +kernel)
set_option maxRecDepth 20000 in
theorem gX2_falls_X2_draws : GoodIn wsX2_falls (wsV RX2 58 RX2 yX2_draws wsX2_draws) := goodIn_app (goodIn_of _ (by decide +kernel)) ggX2_falls_X2_draws
set_option maxRecDepth 20000 in
theorem ggX2_falls_X3_laughing : GoodIn wsX2_falls wsX3_laughing := goodIn_r _ [122, 21, 22, 44, 8, 9, 10, 11, 12, 13, 14, 15, 24, 25, 26, 27, 28, 29, 30, 31, 32, 33, 34, 35, 36, 37, 38, 39, 40, 41, 42, 43, 45, 46, 47, 19, 48, 49, 50, 51, 52, 53, 54, 55, 56, 57, 58, 59, 60, 23, 61, 62, 63, 64, 65, 66, 67, 68, 69, 70, 71, 72, 73, 74, 75, 76, 77, 78, 79, 80, 81, 82, 83, 84, 85, 86, 87, 88, 89, 90, 91, 92, 93, 94, 95, 96, 97, 154, 155, 156, 157, 138, 139, 140, 141, 142, 143, 144, 145, 146, 147, 148, 149, 150, 151, 152, 153, 158, 159, 160, 161] rfl (by decide +kernel)
set_option maxRecDepth 20000 in
theorem gX2_falls_X3_laughing : GoodIn wsX2_falls (wsV RX2 61 RX3 yX3_laughing wsX3_laughing) := goodIn_app (goodIn_of _ (by decide +kernel)) ggX2_falls_X3_laughing
set_option maxRecDepth 20000 in
theorem ggX2_falls_X0_set : GoodIn wsX2_falls wsX0_set := goodIn_r _ [109, 12, 55, 14, 56, 138, 139, 140, 141, 142, 143, 144, 145, 146, 147, 148, 149, 150, 151, 152, 153] rfl (by decide +kernel)
set_option maxRecDepth 20000 in
theorem gX2_falls_X0_set : GoodIn wsX2_falls (wsV RX2 46 RX0 yX0_set wsX0_set) := goodIn_app (goodIn_of _ (by decide +kernel)) ggX2_falls_X0_set
set_option maxRecDepth 20000 in
theorem ggX2_falls_X0_writeDown : GoodIn wsX2_falls wsX0_writeDown := goodIn_r _ [126, 12, 13, 14, 15, 127, 128, 129, 130, 131, 132, 133, 52, 53, 10, 54, 134, 107, 108, 109, 55, 56, 138, 139, 140, 141, 142, 143, 144, 145, 146, 147, 148, 149, 150, 151, 152, 153] rfl (by decide +kernel)
set_option maxRecDepth 20000 in
theorem gX2_falls_X0_writeDown : GoodIn wsX2_falls (wsV RX2 69 RX0 yX0_writeDown wsX0_writeDown) := goodIn_app (goodIn_of _ (by decide +kernel)) ggX2_falls_X0_writeDown
theorem dX2_falls_0 : decode cX2_falls 0 = .ok (.aload_n 0, 1) := by decide +kernel
theorem dX2_falls_1 : decode cX2_falls 1 = .ok (.getfield 17, 3) := by decide +kernel
theorem dX2_falls_4 : decode cX2_falls 4 = .ok (.bipush 29, 2) := by decide +kernel
theorem dX2_falls_6 : decode cX2_falls 6 = .ok (.iload_n 1, 1) := by decide +kernel
theorem dX2_falls_7 : decode cX2_falls 7 = .ok (.invokevirtual 32, 3) := by decide +kernel
theorem dX2_falls_10 : decode cX2_falls 10 = .ok (.istore_n 3, 1) := by decide +kernel
theorem dX2_falls_11 : decode cX2_falls 11 = .ok (.aload_n 0, 1) := by decide +kernel
theorem dX2_falls_12 : decode cX2_falls 12 = .ok (.iload_n 3, 1) := by decide +kernel
theorem dX2_falls_13 : decode cX2_falls 13 = .ok (.iload_n 2, 1) := by decide +kernel
theorem dX2_falls_14 : decode cX2_falls 14 = .ok (.aload_n 0, 1) := by decide +kernel
theorem dX2_falls_15 : decode cX2_falls 15 = .ok (.getfield 21, 3) := by decide +kernel
theorem dX2_falls_18 : decode cX2_falls 18 = .ok (.iload_n 1, 1) := by decide +kernel
theorem dX2_falls_19 : decode cX2_falls 19 = .ok (.iload_n 2, 1) := by decide +kernel
theorem dX2_falls_20 : decode cX2_falls 20 = .ok (.invokevirtual 50, 3) := by decide +kernel
theorem dX2_falls_23 : decode cX2_falls 23 = .ok (.invokevirtual 55, 3) := by decide +kernel
theorem dX2_falls_26 : decode cX2_falls 26 = .ok (.aload_n 0, 1) := by decide +kernel
theorem dX2_falls_27 : decode cX2_falls 27 = .ok (.invokevirtual 58, 3) := by decide +kernel
theorem dX2_falls_30 : decode cX2_falls 30 = .ok (.bipush 10, 2) := by decide +kernel
theorem dX2_falls_32 : decode cX2_falls 32 = .ok (.irem, 1) := by decide +kernel
theorem dX2_falls_33 : decode cX2_falls 33 = .ok (.aload_n 0, 1) := by decide +kernel
theorem dX2_falls_34 : decode cX2_falls 34 = .ok (.getfield 21, 3) := by decide +kernel
theorem dX2_falls_37 : decode cX2_falls 37 = .ok (.iload_n 1, 1) := by decide +kernel
theorem dX2_falls_38 : decode cX2_falls 38 = .ok (.iload_n 2, 1) := by decide +kernel
theorem dX2_falls_39 : decode cX2_falls 39 = .ok (.invokevirtual 61, 3) := by decide +kernel
theorem dX2_falls_42 : decode cX2_falls 42 = .ok (.if_icmp .ge 64, 3) := by decide +kernel
theorem dX2_falls_45 : decode cX2_falls 45 = .ok (.aload_n 0, 1) := by decide +kernel
theorem dX2_falls_46 : decode cX2_falls 46 = .ok (.getfield 17, 3) := by decide +kernel
theorem dX2_falls_49 : decode cX2_falls 49 = .ok (.bipush 18, 2) := by decide +kernel
theorem dX2_falls_51 : decode cX2_falls 51 = .ok (.iload_n 3, 1) := by decide +kernel
theorem dX2_falls_52 : decode cX2_falls 52 = .ok (.aload_n 0, 1) := by decide +kernel
theorem dX2_falls_53 : decode cX2_falls 53 = .ok (.getfield 17, 3) := by decide +kernel
theorem dX2_falls_56 : decode cX2_falls 56 = .ok (.bipush 18, 2) := by decide +kernel
theorem dX2_falls_58 : decode cX2_falls 58 = .ok (.iload_n 3, 1) := by decide +kernel
theorem dX2_falls_59 : decode cX2_falls 59 = .ok (.invokevirtual 32, 3) := by decide +kernel
theorem dX2_falls_62 : decode cX2_falls 62 = .ok (.iconst 1, 1) := by decide +kernel
theorem dX2_falls_63 : decode cX2_falls 63 = .ok (.iadd, 1) := by decide +kernel
theorem dX2_falls_64 : decode cX2_falls 64 = .ok (.bipush 99, 2) := by decide +kernel
theorem dX2_falls_66 : decode cX2_falls 66 = .ok (.invokestatic 64, 3) := by decide +kernel
theorem dX2_falls_69 : decode cX2_falls 69 = .ok (.invokevirtual 46, 3) := by decide +kernel
theorem dX2_falls_72 : decode cX2_falls 72 = .ok (.aload_n 0, 1) := by decide +kernel
theorem dX2_falls_73 : decode cX2_falls 73 = .ok (.getfield 17, 3) := by decide +kernel
theorem dX2_falls_76 : decode cX2_falls 76 = .ok (.bipush 12, 2) := by decide +kernel
theorem dX2_falls_78 : decode cX2_falls 78 = .ok (.iload_n 3, 1) := by decide +kernel
theorem dX2_falls_79 : decode cX2_falls 79 = .ok (.invokevirtual 32, 3) := by decide +kernel
theorem dX2_falls_82 : decode cX2_falls 82 = .ok (.iconst (-1), 1) := by decide +kernel
theorem dX2_falls_83 : decode cX2_falls 83 = .ok (.if_icmp .ne 14, 3) := by decide +kernel
theorem dX2_falls_86 : decode cX2_falls 86 = .ok (.aload_n 0, 1) := by decide +kernel
theorem dX2_falls_87 : decode cX2_falls 87 = .ok (.getfield 17, 3) := by decide +kernel
theorem dX2_falls_90 : decode cX2_falls 90 = .ok (.bipush 12, 2) := by decide +kernel
theorem dX2_falls_92 : decode cX2_falls 92 = .ok (.iload_n 3, 1) := by decide +kernel
theorem dX2_falls_93 : decode cX2_falls 93 = .ok (.iload_n 1, 1) := by decide +kernel
theorem dX2_falls_94 : decode cX2_falls 94 = .ok (.invokevirtual 46, 3) := by decide +kernel
theorem dX2_falls_97 : decode cX2_falls 97 = .ok (.aload_n 0, 1) := by decide +kernel
theorem dX2_falls_98 : decode cX2_falls 98 = .ok (.getfield 17, 3) := by decide +kernel
theorem dX2_falls_101 : decode cX2_falls 101 = .ok (.iload_n 3, 1) := by decide +kernel
theorem dX2_falls_102 : decode cX2_falls 102 = .ok (.iload_n 1, 1) := by decide +kernel
theorem dX2_falls_103 : decode cX2_falls 103 = .ok (.invokevirtual 69, 3) := by decide +kernel
theorem dX2_falls_106 : decode cX2_falls 106 = .ok (.aload_n 0, 1) := by decide +kernel
theorem dX2_falls_107 : decode cX2_falls 107 = .ok (.getfield 17, 3) := by decide +kernel
theorem dX2_falls_110 : decode cX2_falls 110 = .ok (.bipush 24, 2) := by decide +kernel
theorem dX2_falls_112 : decode cX2_falls 112 = .ok (.iload_n 1, 1) := by decide +kernel
theorem dX2_falls_113 : decode cX2_falls 113 = .ok (.aload_n 0, 1) := by decide +kernel
theorem dX2_falls_114 : decode cX2_falls 114 = .ok (.getfield 17, 3) := by decide +kernel
theorem dX2_falls_117 : decode cX2_falls 117 = .ok (.bipush 24, 2) := by decide +kernel
theorem dX2_falls_119 : decode cX2_falls 119 = .ok (.iload_n 1, 1) := by decide +kernel
theorem dX2_falls_120 : decode cX2_falls 120 = .ok (.invokevirtual 32, 3) := by decide +kernel
theorem dX2_falls_123 : decode cX2_falls 123 = .ok (.iconst 1, 1) := by decide +kernel
theorem dX2_falls_124 : decode cX2_falls 124 = .ok (.iadd, 1) := by decide +kernel
theorem dX2_falls_125 : decode cX2_falls 125 = .ok (.invokevirtual 46, 3) := by decide +kernel
theorem dX2_falls_128 : decode cX2_falls 128 = .ok (.aload_n 0, 1) := by decide +kernel
theorem dX2_falls_129 : decode cX2_falls 129 = .ok (.getfield 17, 3) := by decide +kernel
theorem dX2_falls_132 : decode cX2_falls 132 = .ok (.bipush 34, 2) := by decide +kernel
theorem dX2_falls_134 : decode cX2_falls 134 = .ok (.iload_n 1, 1) := by decide +kernel
theorem dX2_falls_135 : decode cX2_falls 135 = .ok (.aload_n 0, 1) := by decide +kernel
theorem dX2_falls_136 : decode cX2_falls 136 = .ok (.getfield 17, 3) := by decide +kernel
theorem dX2_falls_139 : decode cX2_falls 139 = .ok (.bipush 34, 2) := by decide +kernel
theorem dX2_falls_141 : decode cX2_falls 141 = .ok (.iload_n 1, 1) := by decide +kernel
theorem dX2_falls_142 : decode cX2_falls 142 = .ok (.invokevirtual 32, 3) := by decide +kernel
theorem dX2_falls_145 : decode cX2_falls 145 = .ok (.iconst 1, 1) := by decide +kernel
theorem dX2_falls_146 : decode cX2_falls 146 = .ok (.iadd, 1) := by decide +kernel
theorem dX2_falls_147 : decode cX2_falls 147 = .ok (.sipush 9999, 3) := by decide +kernel
theorem dX2_falls_150 : decode cX2_falls 150 = .ok (.invokestatic 64, 3) := by decide +kernel
theorem dX2_falls_153 : decode cX2_falls 153 = .ok (.invokevirtual 46, 3) := by decide +kernel
theorem dX2_falls_156 : decode cX2_falls 156 = .ok (.return_, 1) := by decide +kernel
set_option maxRecDepth 20000 in
theorem ggX2_oddsOfFall_X0_see : GoodIn wsX2_oddsOfFall wsX0_see := goodIn_r _ [7, 8, 9, 10, 11, 119, 120, 121, 122, 123, 124, 125, 126, 127, 128, 129, 130, 131, 132, 133, 134] rfl (by decide +kernel)
set_option maxRecDepth 20000 in
theorem gX2_oddsOfFall_X0_see : GoodIn wsX2_oddsOfFall (wsV RX2 32 RX0 yX0_see wsX0_see) := goodIn_app (goodIn_of _ (by decide +kernel)) ggX2_oddsOfFall_X0_see
set_option maxRecDepth 20000 in
theorem ggX2_oddsOfFall_X3_easing : GoodIn wsX2_oddsOfFall wsX3_easing := goodIn_r _ [16, 17, 18, 19, 20, 21, 22, 6, 23, 24, 25, 26, 27, 28, 29, 30, 31, 32, 33, 34, 35, 9, 10, 11, 36, 37, 38, 39, 40, 4, 5, 7, 8, 41, 42, 43, 15, 44, 45, 46, 47, 48, 49, 50, 51, 52, 53, 54, 55, 56, 57, 58, 59, 60, 61, 62, 63, 64, 65, 66, 67, 68, 69, 70, 71, 72, 73, 74, 75, 76, 77, 78, 79, 80, 81, 82, 83, 84, 85, 86, 87, 88, 89, 90, 91, 92, 93, 135, 136, 137, 138, 119, 120, 121, 122, 123, 124, 125, 126, 127, 128, 129, 130, 131, 132, 133, 134, 139, 140, 141, 142] rfl (by decide +kernel)
set_option maxRecDepth 20000 in
theorem gX2_oddsOfFall_X3_easing : GoodIn wsX2_oddsOfFall (wsV RX2 50 RX3 yX3_easing wsX3_easing) := goodIn_app (goodIn_of _ (by decide +kernel)) ggX2_oddsOfFall_X3_easing
set_option maxRecDepth 20000 in
theorem ggX2_oddsOfFall_X2_moves : GoodIn wsX2_oddsOfFall wsX2_moves := goodIn_r _ [98, 1, 99, 100, 101, 102, 3, 4, 5, 6, 7, 8, 9, 10, 11, 103, 104, 105, 106, 51, 52, 107, 108, 109, 110, 111, 116, 117, 118, 119, 120, 121, 122, 123, 124, 125, 126, 127, 128, 129, 130, 131, 132, 133, 134] rfl (by decide +kernel)
set_option maxRecDepth 20000 in
theorem gX2_oddsOfFall_X2_moves : GoodIn wsX2_oddsOfFall (wsV RX2 55 RX2 yX2_moves wsX2_moves) := goodIn_app (goodIn_of _ (by decide +kernel)) ggX2_oddsOfFall_X2_moves
set_option maxRecDepth 20000 in
theorem ggX2_oddsOfFall_X3_laughing : GoodIn wsX2_oddsOfFall wsX3_laughing := goodIn_r _ [115, 17, 18, 40, 4, 5, 6, 7, 8, 9, 10, 11, 20, 21, 22, 23, 24, 25, 26, 27, 28, 29, 30, 31, 32, 33, 34, 35, 36, 37, 38, 39, 41, 42, 43, 15, 44, 45, 46, 47, 48, 49, 50, 51, 52, 53, 54, 55, 56, 19, 57, 58, 59, 60, 61, 62, 63, 64, 65, 66, 67, 68, 69, 70, 71, 72, 73, 74, 75, 76, 77, 78, 79, 80, 81, 82, 83, 84, 85, 86, 87, 88, 89, 90, 91, 92, 93, 135, 136, 137, 138, 119, 120, 121, 122, 123, 124, 125, 126, 127, 128, 129, 130, 131, 132, 133, 134, 139, 140, 141, 142] rfl (by decide +kernel)
set_option maxRecDepth 20000 in
theorem gX2_oddsOfFall_X3_laughing : GoodIn wsX2_oddsOfFall (wsV RX2 61 RX3 yX3_laughing wsX3_laughing) := goodIn_app (goodIn_of _ (by decide +kernel)) ggX2_oddsOfFall_X3_laughing
set_option maxRecDepth 20000 in
theorem ggX2_oddsOfFall_X0_set : GoodIn wsX2_oddsOfFall wsX0_set := goodIn_r _ [106, 8, 51, 10, 52, 119, 120, 121, 122, 123, 124, 125, 126, 127, 128, 129, 130, 131, 132, 133, 134] rfl (by decide +kernel)
set_option maxRecDepth 20000 in
theorem gX2_oddsOfFall_X0_set : GoodIn wsX2_oddsOfFall (wsV RX2 46 RX0 yX0_set wsX0_set) := goodIn_app (goodIn_of _ (by decide +kernel)) ggX2_oddsOfFall_X0_set
theorem dX2_oddsOfFall_0 : decode cX2_oddsOfFall 0 = .ok (.aload_n 0, 1) := by decide +kernel
theorem dX2_oddsOfFall_1 : decode cX2_oddsOfFall 1 = .ok (.getfield 17, 3) := by decide +kernel
theorem dX2_oddsOfFall_4 : decode cX2_oddsOfFall 4 = .ok (.bipush 29, 2) := by decide +kernel
theorem dX2_oddsOfFall_6 : decode cX2_oddsOfFall 6 = .ok (.iload_n 1, 1) := by decide +kernel
theorem dX2_oddsOfFall_7 : decode cX2_oddsOfFall 7 = .ok (.invokevirtual 32, 3) := by decide +kernel
theorem dX2_oddsOfFall_10 : decode cX2_oddsOfFall 10 = .ok (.istore_n 3, 1) := by decide +kernel
theorem dX2_oddsOfFall_11 : decode cX2_oddsOfFall 11 = .ok (.aload_n 0, 1) := by decide +kernel
theorem dX2_oddsOfFall_12 : decode cX2_oddsOfFall 12 = .ok (.getfield 17, 3) := by decide +kernel
theorem dX2_oddsOfFall_15 : decode cX2_oddsOfFall 15 = .ok (.iconst 0, 1) := by decide +kernel
theorem dX2_oddsOfFall_16 : decode cX2_oddsOfFall 16 = .ok (.iload_n 3, 1) := by decide +kernel
theorem dX2_oddsOfFall_17 : decode cX2_oddsOfFall 17 = .ok (.invokevirtual 32, 3) := by decide +kernel
theorem dX2_oddsOfFall_20 : decode cX2_oddsOfFall 20 = .ok (.istore 4, 2) := by decide +kernel
theorem dX2_oddsOfFall_22 : decode cX2_oddsOfFall 22 = .ok (.aload_n 0, 1) := by decide +kernel
theorem dX2_oddsOfFall_23 : decode cX2_oddsOfFall 23 = .ok (.getfield 17, 3) := by decide +kernel
theorem dX2_oddsOfFall_26 : decode cX2_oddsOfFall 26 = .ok (.bipush 6, 2) := by decide +kernel
theorem dX2_oddsOfFall_28 : decode cX2_oddsOfFall 28 = .ok (.iload_n 3, 1) := by decide +kernel
theorem dX2_oddsOfFall_29 : decode cX2_oddsOfFall 29 = .ok (.invokevirtual 32, 3) := by decide +kernel
theorem dX2_oddsOfFall_32 : decode cX2_oddsOfFall 32 = .ok (.istore 5, 2) := by decide +kernel
theorem dX2_oddsOfFall_34 : decode cX2_oddsOfFall 34 = .ok (.aload_n 0, 1) := by decide +kernel
theorem dX2_oddsOfFall_35 : decode cX2_oddsOfFall 35 = .ok (.iload_n 3, 1) := by decide +kernel
theorem dX2_oddsOfFall_36 : decode cX2_oddsOfFall 36 = .ok (.iload_n 2, 1) := by decide +kernel
theorem dX2_oddsOfFall_37 : decode cX2_oddsOfFall 37 = .ok (.aload_n 0, 1) := by decide +kernel
theorem dX2_oddsOfFall_38 : decode cX2_oddsOfFall 38 = .ok (.getfield 21, 3) := by decide +kernel
theorem dX2_oddsOfFall_41 : decode cX2_oddsOfFall 41 = .ok (.iload_n 1, 1) := by decide +kernel
theorem dX2_oddsOfFall_42 : decode cX2_oddsOfFall 42 = .ok (.iload_n 2, 1) := by decide +kernel
theorem dX2_oddsOfFall_43 : decode cX2_oddsOfFall 43 = .ok (.invokevirtual 50, 3) := by decide +kernel
theorem dX2_oddsOfFall_46 : decode cX2_oddsOfFall 46 = .ok (.invokevirtual 55, 3) := by decide +kernel
theorem dX2_oddsOfFall_49 : decode cX2_oddsOfFall 49 = .ok (.aload_n 0, 1) := by decide +kernel
theorem dX2_oddsOfFall_50 : decode cX2_oddsOfFall 50 = .ok (.getfield 21, 3) := by decide +kernel
theorem dX2_oddsOfFall_53 : decode cX2_oddsOfFall 53 = .ok (.iload_n 1, 1) := by decide +kernel
theorem dX2_oddsOfFall_54 : decode cX2_oddsOfFall 54 = .ok (.iload_n 2, 1) := by decide +kernel
theorem dX2_oddsOfFall_55 : decode cX2_oddsOfFall 55 = .ok (.invokevirtual 61, 3) := by decide +kernel
theorem dX2_oddsOfFall_58 : decode cX2_oddsOfFall 58 = .ok (.istore 6, 2) := by decide +kernel
theorem dX2_oddsOfFall_60 : decode cX2_oddsOfFall 60 = .ok (.aload_n 0, 1) := by decide +kernel
theorem dX2_oddsOfFall_61 : decode cX2_oddsOfFall 61 = .ok (.getfield 17, 3) := by decide +kernel
theorem dX2_oddsOfFall_64 : decode cX2_oddsOfFall 64 = .ok (.iconst 0, 1) := by decide +kernel
theorem dX2_oddsOfFall_65 : decode cX2_oddsOfFall 65 = .ok (.iload_n 3, 1) := by decide +kernel
theorem dX2_oddsOfFall_66 : decode cX2_oddsOfFall 66 = .ok (.iload 4, 2) := by decide +kernel
theorem dX2_oddsOfFall_68 : decode cX2_oddsOfFall 68 = .ok (.invokevirtual 46, 3) := by decide +kernel
theorem dX2_oddsOfFall_71 : decode cX2_oddsOfFall 71 = .ok (.aload_n 0, 1) := by decide +kernel
theorem dX2_oddsOfFall_72 : decode cX2_oddsOfFall 72 = .ok (.getfield 17, 3) := by decide +kernel
theorem dX2_oddsOfFall_75 : decode cX2_oddsOfFall 75 = .ok (.bipush 6, 2) := by decide +kernel
theorem dX2_oddsOfFall_77 : decode cX2_oddsOfFall 77 = .ok (.iload_n 3, 1) := by decide +kernel
theorem dX2_oddsOfFall_78 : decode cX2_oddsOfFall 78 = .ok (.iload 5, 2) := by decide +kernel
theorem dX2_oddsOfFall_80 : decode cX2_oddsOfFall 80 = .ok (.invokevirtual 46, 3) := by decide +kernel
theorem dX2_oddsOfFall_83 : decode cX2_oddsOfFall 83 = .ok (.iload 6, 2) := by decide +kernel
theorem dX2_oddsOfFall_85 : decode cX2_oddsOfFall 85 = .ok (.ireturn, 1) := by decide +kernel
set_option maxRecDepth 20000 in
theorem ggX2_moves_X0_see : GoodIn wsX2_moves wsX0_see := goodIn_r _ [10, 11, 12, 13, 14, 29, 30, 31, 32, 33, 34, 35, 36, 37, 38, 39, 40, 41, 42, 43, 44] rfl (by decide +kernel)
set_option maxRecDepth 20000 in
theorem gX2_moves_X0_see : GoodIn wsX2_moves (wsV RX2 32 RX0 yX0_see wsX0_see) := goodIn_app (goodIn_of _ (by decide +kernel)) ggX2_moves_X0_see
set_option maxRecDepth 20000 in
theorem ggX2_moves_X0_set : GoodIn wsX2_moves wsX0_set := goodIn_r _ [18, 11, 19, 13, 20, 29, 30, 31, 32, 33, 34, 35, 36, 37, 38, 39, 40, 41, 42, 43, 44] rfl (by decide +kernel)
set_option maxRecDepth 20000 in
theorem gX2_moves_X0_set : GoodIn wsX2_moves (wsV RX2 46 RX0 yX0_set wsX0_set) := goodIn_app (goodIn_of _ (by decide +kernel)) ggX2_moves_X0_set
set_option maxRecDepth 20000 in
theorem ggX2_moves_X0_turned : GoodIn wsX2_moves wsX0_turned := goodIn_r _ [24, 25, 12, 13, 14, 29, 30, 31, 32, 33, 34, 35, 36, 37, 38, 39, 40, 41, 42, 43, 44] rfl (by decide +kernel)
set_option maxRecDepth 20000 in
theorem gX2_moves_X0_turned : GoodIn wsX2_moves (wsV RX2 76 RX0 yX0_turned wsX0_turned) := goodIn_app (goodIn_of _ (by decide +kernel)) ggX2_moves_X0_turned
theorem dX2_moves_0 : decode cX2_moves 0 = .ok (.aload_n 0, 1) := by decide +kernel
theorem dX2_moves_1 : decode cX2_moves 1 = .ok (.getfield 17, 3) := by decide +kernel
theorem dX2_moves_4 : decode cX2_moves 4 = .ok (.iconst 0, 1) := by decide +kernel
theorem dX2_moves_5 : decode cX2_moves 5 = .ok (.iload_n 1, 1) := by decide +kernel
theorem dX2_moves_6 : decode cX2_moves 6 = .ok (.aload_n 0, 1) := by decide +kernel
theorem dX2_moves_7 : decode cX2_moves 7 = .ok (.getfield 17, 3) := by decide +kernel
theorem dX2_moves_10 : decode cX2_moves 10 = .ok (.iconst 0, 1) := by decide +kernel
theorem dX2_moves_11 : decode cX2_moves 11 = .ok (.iload_n 1, 1) := by decide +kernel
theorem dX2_moves_12 : decode cX2_moves 12 = .ok (.invokevirtual 32, 3) := by decide +kernel
theorem dX2_moves_15 : decode cX2_moves 15 = .ok (.iload_n 3, 1) := by decide +kernel
theorem dX2_moves_16 : decode cX2_moves 16 = .ok (.isub, 1) := by decide +kernel
theorem dX2_moves_17 : decode cX2_moves 17 = .ok (.iconst 0, 1) := by decide +kernel
theorem dX2_moves_18 : decode cX2_moves 18 = .ok (.invokestatic 73, 3) := by decide +kernel
theorem dX2_moves_21 : decode cX2_moves 21 = .ok (.invokevirtual 46, 3) := by decide +kernel
theorem dX2_moves_24 : decode cX2_moves 24 = .ok (.aload_n 0, 1) := by decide +kernel
theorem dX2_moves_25 : decode cX2_moves 25 = .ok (.getfield 17, 3) := by decide +kernel
theorem dX2_moves_28 : decode cX2_moves 28 = .ok (.bipush 6, 2) := by decide +kernel
theorem dX2_moves_30 : decode cX2_moves 30 = .ok (.iload_n 1, 1) := by decide +kernel
theorem dX2_moves_31 : decode cX2_moves 31 = .ok (.aload_n 0, 1) := by decide +kernel
theorem dX2_moves_32 : decode cX2_moves 32 = .ok (.getfield 17, 3) := by decide +kernel
theorem dX2_moves_35 : decode cX2_moves 35 = .ok (.iload_n 2, 1) := by decide +kernel
theorem dX2_moves_36 : decode cX2_moves 36 = .ok (.aload_n 0, 1) := by decide +kernel
theorem dX2_moves_37 : decode cX2_moves 37 = .ok (.getfield 17, 3) := by decide +kernel
theorem dX2_moves_40 : decode cX2_moves 40 = .ok (.bipush 6, 2) := by decide +kernel
theorem dX2_moves_42 : decode cX2_moves 42 = .ok (.iload_n 1, 1) := by decide +kernel
theorem dX2_moves_43 : decode cX2_moves 43 = .ok (.invokevirtual 32, 3) := by decide +kernel
theorem dX2_moves_46 : decode cX2_moves 46 = .ok (.invokevirtual 76, 3) := by decide +kernel
theorem dX2_moves_49 : decode cX2_moves 49 = .ok (.invokevirtual 46, 3) := by decide +kernel
theorem dX2_moves_52 : decode cX2_moves 52 = .ok (.return_, 1) := by decide +kernel
set_option maxRecDepth 20000 in
theorem ggX2_draws_X0_see : GoodIn wsX2_draws wsX0_see := goodIn_r _ [6, 7, 8, 9, 10, 20, 21, 22, 23, 24, 25, 26, 27, 28, 29, 30, 31, 32, 33, 34, 35] rfl (by decide +kernel)
set_option maxRecDepth 20000 in
theorem gX2_draws_X0_see : GoodIn wsX2_draws (wsV RX2 32 RX0 yX0_see wsX0_see) := goodIn_app (goodIn_of _ (by decide +kernel)) ggX2_draws_X0_see
set_option maxRecDepth 20000 in
theorem ggX2_draws_X0_set : GoodIn wsX2_draws wsX0_set := goodIn_r _ [14, 7, 15, 9, 16, 20, 21, 22, 23, 24, 25, 26, 27, 28, 29, 30, 31, 32, 33, 34, 35] rfl (by decide +kernel)
set_option maxRecDepth 20000 in
theorem gX2_draws_X0_set : GoodIn wsX2_draws (wsV RX2 46 RX0 yX0_set wsX0_set) := goodIn_app (goodIn_of _ (by decide +kernel)) ggX2_draws_X0_set
theorem dX2_draws_0 : decode cX2_draws 0 = .ok (.aload_n 0, 1) := by decide +kernel
theorem dX2_draws_1 : decode cX2_draws 1 = .ok (.getfield 17, 3) := by decide +kernel
theorem dX2_draws_4 : decode cX2_draws 4 = .ok (.bipush 40, 2) := by decide +kernel
theorem dX2_draws_6 : decode cX2_draws 6 = .ok (.iconst 0, 1) := by decide +kernel
theorem dX2_draws_7 : decode cX2_draws 7 = .ok (.invokevirtual 32, 3) := by decide +kernel
theorem dX2_draws_10 : decode cX2_draws 10 = .ok (.istore_n 1, 1) := by decide +kernel
theorem dX2_draws_11 : decode cX2_draws 11 = .ok (.aload_n 0, 1) := by decide +kernel
theorem dX2_draws_12 : decode cX2_draws 12 = .ok (.getfield 17, 3) := by decide +kernel
theorem dX2_draws_15 : decode cX2_draws 15 = .ok (.bipush 40, 2) := by decide +kernel
theorem dX2_draws_17 : decode cX2_draws 17 = .ok (.iconst 0, 1) := by decide +kernel
theorem dX2_draws_18 : decode cX2_draws 18 = .ok (.iload_n 1, 1) := by decide +kernel
theorem dX2_draws_19 : decode cX2_draws 19 = .ok (.sipush 419, 3) := by decide +kernel
theorem dX2_draws_22 : decode cX2_draws 22 = .ok (.imul, 1) := by decide +kernel
theorem dX2_draws_23 : decode cX2_draws 23 = .ok (.sipush 293, 3) := by decide +kernel
theorem dX2_draws_26 : decode cX2_draws 26 = .ok (.iadd, 1) := by decide +kernel
theorem dX2_draws_27 : decode cX2_draws 27 = .ok (.sipush 30529, 3) := by decide +kernel
theorem dX2_draws_30 : decode cX2_draws 30 = .ok (.irem, 1) := by decide +kernel
theorem dX2_draws_31 : decode cX2_draws 31 = .ok (.invokevirtual 46, 3) := by decide +kernel
theorem dX2_draws_34 : decode cX2_draws 34 = .ok (.iload_n 1, 1) := by decide +kernel
theorem dX2_draws_35 : decode cX2_draws 35 = .ok (.ireturn, 1) := by decide +kernel
set_option maxRecDepth 20000 in
theorem ggX2_passes_X0_houseCount : GoodIn wsX2_passes wsX0_houseCount := goodIn_r _ [15, 16, 17, 5, 6, 7, 18, 19, 20, 133, 134, 135, 136, 137, 138, 139, 140, 141, 142, 143, 144, 145, 146, 147, 148] rfl (by decide +kernel)
set_option maxRecDepth 20000 in
theorem gX2_passes_X0_houseCount : GoodIn wsX2_passes (wsV RX2 79 RX0 yX0_houseCount wsX0_houseCount) := goodIn_app (goodIn_of _ (by decide +kernel)) ggX2_passes_X0_houseCount
set_option maxRecDepth 20000 in
theorem ggX2_passes_X0_textAt : GoodIn wsX2_passes wsX0_textAt := goodIn_r _ [24, 25, 26, 133, 134, 135, 136, 137, 138, 139, 140, 141, 142, 143, 144, 145, 146, 147, 148] rfl (by decide +kernel)
set_option maxRecDepth 20000 in
theorem gX2_passes_X0_textAt : GoodIn wsX2_passes (wsV RX2 86 RX0 yX0_textAt wsX0_textAt) := goodIn_app (goodIn_of _ (by decide +kernel)) ggX2_passes_X0_textAt
set_option maxRecDepth 20000 in
theorem ggX2_passes_X3_growing : GoodIn wsX2_passes wsX3_growing := goodIn_r _ [31, 32, 33, 34, 35, 36, 14, 37, 38, 39, 40, 41, 16, 17, 5, 6, 7, 18, 19, 20, 42, 43, 44, 45, 46, 47, 48, 49, 50, 51, 52, 53, 54, 55, 56, 57, 58, 59, 60, 61, 62, 63, 64, 65, 66, 67, 68, 69, 30, 70, 71, 72, 73, 74, 75, 76, 77, 78, 79, 80, 81, 82, 83, 84, 85, 86, 87, 88, 89, 90, 91, 92, 93, 94, 95, 96, 97, 98, 99, 100, 101, 102, 103, 104, 105, 106, 107, 108, 109, 110, 111, 112, 113, 114, 149, 150, 151, 152, 133, 134, 135, 136, 137, 138, 139, 140, 141, 142, 143, 144, 145, 146, 147, 148, 153, 154, 155, 156] rfl (by decide +kernel)
set_option maxRecDepth 20000 in
theorem gX2_passes_X3_growing : GoodIn wsX2_passes (wsV RX2 90 RX3 yX3_growing wsX3_growing) := goodIn_app (goodIn_of _ (by decide +kernel)) ggX2_passes_X3_growing
set_option maxRecDepth 20000 in
theorem ggX2_passes_X0_see : GoodIn wsX2_passes wsX0_see := goodIn_r _ [45, 16, 18, 19, 20, 133, 134, 135, 136, 137, 138, 139, 140, 141, 142, 143, 144, 145, 146, 147, 148] rfl (by decide +kernel)
set_option maxRecDepth 20000 in
theorem gX2_passes_X0_see : GoodIn wsX2_passes (wsV RX2 32 RX0 yX0_see wsX0_see) := goodIn_app (goodIn_of _ (by decide +kernel)) ggX2_passes_X0_see
set_option maxRecDepth 20000 in
theorem ggX2_passes_X0_set : GoodIn wsX2_passes wsX0_set := goodIn_r _ [119, 16, 76, 19, 77, 133, 134, 135, 136, 137, 138, 139, 140, 141, 142, 143, 144, 145, 146, 147, 148] rfl (by decide +kernel)
set_option maxRecDepth 20000 in
theorem gX2_passes_X0_set : GoodIn wsX2_passes (wsV RX2 46 RX0 yX0_set wsX0_set) := goodIn_app (goodIn_of _ (by decide +kernel)) ggX2_passes_X0_set
set_option maxRecDepth 20000 in
theorem ggX2_passes_X0_clownCount : GoodIn wsX2_passes wsX0_clownCount := goodIn_r _ [41, 16, 17, 5, 6, 7, 18, 19, 20, 133, 134, 135, 136, 137, 138, 139, 140, 141, 142, 143, 144, 145, 146, 147, 148] rfl (by decide +kernel)
set_option maxRecDepth 20000 in
theorem gX2_passes_X0_clownCount : GoodIn wsX2_passes (wsV RX2 94 RX0 yX0_clownCount wsX0_clownCount) := goodIn_app (goodIn_of _ (by decide +kernel)) ggX2_passes_X0_clownCount
set_option maxRecDepth 20000 in
theorem ggX2_passes_X0_isOut : GoodIn wsX2_passes wsX0_isOut := goodIn_r _ [124, 125, 126, 127, 14, 128, 16, 18, 19, 20, 42, 43, 44, 45, 133, 134, 135, 136, 137, 138, 139, 140, 141, 142, 143, 144, 145, 146, 147, 148] rfl (by decide +kernel)
set_option maxRecDepth 20000 in
theorem gX2_passes_X0_isOut : GoodIn wsX2_passes (wsV RX2 36 RX0 yX0_isOut wsX0_isOut) := goodIn_app (goodIn_of _ (by decide +kernel)) ggX2_passes_X0_isOut
set_option maxRecDepth 20000 in
theorem ggX2_passes_X0_today : GoodIn wsX2_passes wsX0_today := goodIn_r _ [75, 16, 18, 19, 20, 133, 134, 135, 136, 137, 138, 139, 140, 141, 142, 143, 144, 145, 146, 147, 148] rfl (by decide +kernel)
set_option maxRecDepth 20000 in
theorem gX2_passes_X0_today : GoodIn wsX2_passes (wsV RX2 42 RX0 yX0_today wsX0_today) := goodIn_app (goodIn_of _ (by decide +kernel)) ggX2_passes_X0_today
theorem dX2_passes_0 : decode cX2_passes 0 = .ok (.iconst 0, 1) := by decide +kernel
theorem dX2_passes_1 : decode cX2_passes 1 = .ok (.istore_n 1, 1) := by decide +kernel
theorem dX2_passes_2 : decode cX2_passes 2 = .ok (.iload_n 1, 1) := by decide +kernel
theorem dX2_passes_3 : decode cX2_passes 3 = .ok (.aload_n 0, 1) := by decide +kernel
theorem dX2_passes_4 : decode cX2_passes 4 = .ok (.getfield 17, 3) := by decide +kernel
theorem dX2_passes_7 : decode cX2_passes 7 = .ok (.invokevirtual 79, 3) := by decide +kernel
theorem dX2_passes_10 : decode cX2_passes 10 = .ok (.if_icmp .ge 57, 3) := by decide +kernel
theorem dX2_passes_13 : decode cX2_passes 13 = .ok (.aload_n 0, 1) := by decide +kernel
theorem dX2_passes_14 : decode cX2_passes 14 = .ok (.getfield 21, 3) := by decide +kernel
theorem dX2_passes_17 : decode cX2_passes 17 = .ok (.aload_n 0, 1) := by decide +kernel
theorem dX2_passes_18 : decode cX2_passes 18 = .ok (.getfield 17, 3) := by decide +kernel
theorem dX2_passes_21 : decode cX2_passes 21 = .ok (.aload_n 0, 1) := by decide +kernel
theorem dX2_passes_22 : decode cX2_passes 22 = .ok (.getfield 17, 3) := by decide +kernel
theorem dX2_passes_25 : decode cX2_passes 25 = .ok (.getfield 82, 3) := by decide +kernel
theorem dX2_passes_28 : decode cX2_passes 28 = .ok (.invokevirtual 86, 3) := by decide +kernel
theorem dX2_passes_31 : decode cX2_passes 31 = .ok (.iload_n 1, 1) := by decide +kernel
theorem dX2_passes_32 : decode cX2_passes 32 = .ok (.invokevirtual 90, 3) := by decide +kernel
theorem dX2_passes_35 : decode cX2_passes 35 = .ok (.istore_n 2, 1) := by decide +kernel
theorem dX2_passes_36 : decode cX2_passes 36 = .ok (.aload_n 0, 1) := by decide +kernel
theorem dX2_passes_37 : decode cX2_passes 37 = .ok (.getfield 17, 3) := by decide +kernel
theorem dX2_passes_40 : decode cX2_passes 40 = .ok (.iconst 0, 1) := by decide +kernel
theorem dX2_passes_41 : decode cX2_passes 41 = .ok (.iload_n 1, 1) := by decide +kernel
theorem dX2_passes_42 : decode cX2_passes 42 = .ok (.aload_n 0, 1) := by decide +kernel
theorem dX2_passes_43 : decode cX2_passes 43 = .ok (.getfield 17, 3) := by decide +kernel
theorem dX2_passes_46 : decode cX2_passes 46 = .ok (.iconst 0, 1) := by decide +kernel
theorem dX2_passes_47 : decode cX2_passes 47 = .ok (.iload_n 1, 1) := by decide +kernel
theorem dX2_passes_48 : decode cX2_passes 48 = .ok (.invokevirtual 32, 3) := by decide +kernel
theorem dX2_passes_51 : decode cX2_passes 51 = .ok (.iload_n 2, 1) := by decide +kernel
theorem dX2_passes_52 : decode cX2_passes 52 = .ok (.iadd, 1) := by decide +kernel
theorem dX2_passes_53 : decode cX2_passes 53 = .ok (.bipush 99, 2) := by decide +kernel
theorem dX2_passes_55 : decode cX2_passes 55 = .ok (.invokestatic 64, 3) := by decide +kernel
theorem dX2_passes_58 : decode cX2_passes 58 = .ok (.invokevirtual 46, 3) := by decide +kernel
theorem dX2_passes_61 : decode cX2_passes 61 = .ok (.iinc 1 1, 3) := by decide +kernel
theorem dX2_passes_64 : decode cX2_passes 64 = .ok (.goto (-62), 3) := by decide +kernel
theorem dX2_passes_67 : decode cX2_passes 67 = .ok (.iconst 0, 1) := by decide +kernel
theorem dX2_passes_68 : decode cX2_passes 68 = .ok (.istore_n 1, 1) := by decide +kernel
theorem dX2_passes_69 : decode cX2_passes 69 = .ok (.iload_n 1, 1) := by decide +kernel
theorem dX2_passes_70 : decode cX2_passes 70 = .ok (.aload_n 0, 1) := by decide +kernel
theorem dX2_passes_71 : decode cX2_passes 71 = .ok (.getfield 17, 3) := by decide +kernel
theorem dX2_passes_74 : decode cX2_passes 74 = .ok (.invokevirtual 94, 3) := by decide +kernel
theorem dX2_passes_77 : decode cX2_passes 77 = .ok (.if_icmp .ge 52, 3) := by decide +kernel
theorem dX2_passes_80 : decode cX2_passes 80 = .ok (.aload_n 0, 1) := by decide +kernel
theorem dX2_passes_81 : decode cX2_passes 81 = .ok (.getfield 17, 3) := by decide +kernel
theorem dX2_passes_84 : decode cX2_passes 84 = .ok (.iload_n 1, 1) := by decide +kernel
theorem dX2_passes_85 : decode cX2_passes 85 = .ok (.invokevirtual 36, 3) := by decide +kernel
theorem dX2_passes_88 : decode cX2_passes 88 = .ok (.ifCond .eq 7, 3) := by decide +kernel
theorem dX2_passes_91 : decode cX2_passes 91 = .ok (.iconst 1, 1) := by decide +kernel
theorem dX2_passes_92 : decode cX2_passes 92 = .ok (.goto 4, 3) := by decide +kernel
theorem dX2_passes_95 : decode cX2_passes 95 = .ok (.iconst 3, 1) := by decide +kernel
theorem dX2_passes_96 : decode cX2_passes 96 = .ok (.istore_n 2, 1) := by decide +kernel
theorem dX2_passes_97 : decode cX2_passes 97 = .ok (.aload_n 0, 1) := by decide +kernel
theorem dX2_passes_98 : decode cX2_passes 98 = .ok (.getfield 17, 3) := by decide +kernel
theorem dX2_passes_101 : decode cX2_passes 101 = .ok (.bipush 24, 2) := by decide +kernel
theorem dX2_passes_103 : decode cX2_passes 103 = .ok (.iload_n 1, 1) := by decide +kernel
theorem dX2_passes_104 : decode cX2_passes 104 = .ok (.aload_n 0, 1) := by decide +kernel
theorem dX2_passes_105 : decode cX2_passes 105 = .ok (.getfield 17, 3) := by decide +kernel
theorem dX2_passes_108 : decode cX2_passes 108 = .ok (.bipush 24, 2) := by decide +kernel
theorem dX2_passes_110 : decode cX2_passes 110 = .ok (.iload_n 1, 1) := by decide +kernel
theorem dX2_passes_111 : decode cX2_passes 111 = .ok (.invokevirtual 32, 3) := by decide +kernel
theorem dX2_passes_114 : decode cX2_passes 114 = .ok (.iload_n 2, 1) := by decide +kernel
theorem dX2_passes_115 : decode cX2_passes 115 = .ok (.isub, 1) := by decide +kernel
theorem dX2_passes_116 : decode cX2_passes 116 = .ok (.iconst 0, 1) := by decide +kernel
theorem dX2_passes_117 : decode cX2_passes 117 = .ok (.invokestatic 73, 3) := by decide +kernel
theorem dX2_passes_120 : decode cX2_passes 120 = .ok (.invokevirtual 46, 3) := by decide +kernel
theorem dX2_passes_123 : decode cX2_passes 123 = .ok (.iinc 1 1, 3) := by decide +kernel
theorem dX2_passes_126 : decode cX2_passes 126 = .ok (.goto (-57), 3) := by decide +kernel
theorem dX2_passes_129 : decode cX2_passes 129 = .ok (.aload_n 0, 1) := by decide +kernel
theorem dX2_passes_130 : decode cX2_passes 130 = .ok (.getfield 17, 3) := by decide +kernel
theorem dX2_passes_133 : decode cX2_passes 133 = .ok (.bipush 39, 2) := by decide +kernel
theorem dX2_passes_135 : decode cX2_passes 135 = .ok (.iconst 0, 1) := by decide +kernel
theorem dX2_passes_136 : decode cX2_passes 136 = .ok (.aload_n 0, 1) := by decide +kernel
theorem dX2_passes_137 : decode cX2_passes 137 = .ok (.getfield 17, 3) := by decide +kernel
theorem dX2_passes_140 : decode cX2_passes 140 = .ok (.invokevirtual 42, 3) := by decide +kernel
theorem dX2_passes_143 : decode cX2_passes 143 = .ok (.iconst 1, 1) := by decide +kernel
theorem dX2_passes_144 : decode cX2_passes 144 = .ok (.iadd, 1) := by decide +kernel
theorem dX2_passes_145 : decode cX2_passes 145 = .ok (.invokevirtual 46, 3) := by decide +kernel
theorem dX2_passes_148 : decode cX2_passes 148 = .ok (.return_, 1) := by decide +kernel
set_option maxRecDepth 20000 in
theorem ggX2_actsByDraw_X2_draws : GoodIn wsX2_actsByDraw wsX2_draws := goodIn_r _ [6, 1, 7, 8, 9, 10, 11, 12, 13, 14, 15, 16, 17, 18, 19, 20, 21, 210, 211, 212, 213, 214, 215, 216, 217, 218, 219, 220, 221, 222, 223, 224, 225, 226, 227, 228] rfl (by decide +kernel)
set_option maxRecDepth 20000 in
theorem gX2_actsByDraw_X2_draws : GoodIn wsX2_actsByDraw (wsV RX2 58 RX2 yX2_draws wsX2_draws) := goodIn_app (goodIn_of _ (by decide +kernel)) ggX2_actsByDraw_X2_draws
set_option maxRecDepth 20000 in
theorem ggX2_actsByDraw_X0_clownCount : GoodIn wsX2_actsByDraw wsX0_clownCount := goodIn_r _ [25, 12, 26, 27, 28, 29, 13, 14, 15, 213, 214, 215, 216, 217, 218, 219, 220, 221, 222, 223, 224, 225, 226, 227, 228] rfl (by decide +kernel)
set_option maxRecDepth 20000 in
theorem gX2_actsByDraw_X0_clownCount : GoodIn wsX2_actsByDraw (wsV RX2 94 RX0 yX0_clownCount wsX0_clownCount) := goodIn_app (goodIn_of _ (by decide +kernel)) ggX2_actsByDraw_X0_clownCount
set_option maxRecDepth 20000 in
theorem ggX2_actsByDraw_X0_houseCount : GoodIn wsX2_actsByDraw wsX0_houseCount := goodIn_r _ [33, 12, 26, 27, 28, 29, 13, 14, 15, 213, 214, 215, 216, 217, 218, 219, 220, 221, 222, 223, 224, 225, 226, 227, 228] rfl (by decide +kernel)
set_option maxRecDepth 20000 in
theorem gX2_actsByDraw_X0_houseCount : GoodIn wsX2_actsByDraw (wsV RX2 79 RX0 yX0_houseCount wsX0_houseCount) := goodIn_app (goodIn_of _ (by decide +kernel)) ggX2_actsByDraw_X0_houseCount
set_option maxRecDepth 20000 in
theorem ggX2_actsByDraw_X2_canPass : GoodIn wsX2_actsByDraw wsX2_canPass := goodIn_r _ [37, 1, 38, 39, 40, 10, 41, 12, 13, 14, 15, 210, 211, 212, 213, 214, 215, 216, 217, 218, 219, 220, 221, 222, 223, 224, 225, 226, 227, 228] rfl (by decide +kernel)
set_option maxRecDepth 20000 in
theorem gX2_actsByDraw_X2_canPass : GoodIn wsX2_actsByDraw (wsV RX2 97 RX2 yX2_canPass wsX2_canPass) := goodIn_app (goodIn_of _ (by decide +kernel)) ggX2_actsByDraw_X2_canPass
set_option maxRecDepth 20000 in
theorem ggX2_actsByDraw_X2_passes : GoodIn wsX2_actsByDraw wsX2_passes := goodIn_r _ [45, 1, 46, 47, 48, 27, 28, 29, 49, 50, 51, 30, 31, 32, 10, 33, 12, 26, 13, 14, 15, 52, 53, 54, 55, 56, 57, 58, 59, 60, 61, 62, 63, 64, 65, 66, 67, 68, 69, 23, 24, 25, 70, 8, 9, 11, 71, 72, 73, 74, 75, 76, 77, 78, 79, 80, 81, 82, 83, 84, 85, 86, 87, 88, 89, 90, 91, 92, 93, 94, 95, 96, 97, 39, 40, 41, 20, 21, 98, 99, 100, 101, 102, 103, 104, 105, 106, 107, 108, 109, 110, 111, 112, 113, 114, 115, 116, 117, 118, 119, 120, 121, 122, 123, 124, 125, 126, 127, 128, 129, 130, 131, 132, 133, 134, 7, 16, 17, 18, 19, 22, 135, 136, 137, 138, 139, 140, 141, 142, 38, 210, 211, 212, 213, 214, 215, 216, 217, 218, 219, 220, 221, 222, 223, 224, 225, 226, 227, 228, 229, 230, 231, 232, 233, 234, 235, 236] rfl (by decide +kernel)
set_option maxRecDepth 20000 in
theorem gX2_actsByDraw_X2_passes : GoodIn wsX2_actsByDraw (wsV RX2 101 RX2 yX2_passes wsX2_passes) := goodIn_app (goodIn_of _ (by decide +kernel)) ggX2_actsByDraw_X2_passes
set_option maxRecDepth 20000 in
theorem ggX2_actsByDraw_X2_canGo : GoodIn wsX2_actsByDraw wsX2_canGo := goodIn_r _ [146, 1, 147, 140, 141, 10, 142, 12, 13, 14, 15, 148, 149, 150, 151, 7, 8, 9, 11, 210, 211, 212, 213, 214, 215, 216, 217, 218, 219, 220, 221, 222, 223, 224, 225, 226, 227, 228] rfl (by decide +kernel)
set_option maxRecDepth 20000 in
theorem gX2_actsByDraw_X2_canGo : GoodIn wsX2_actsByDraw (wsV RX2 104 RX2 yX2_canGo wsX2_canGo) := goodIn_app (goodIn_of _ (by decide +kernel)) ggX2_actsByDraw_X2_canGo
set_option maxRecDepth 20000 in
theorem ggX2_actsByDraw_X2_goes : GoodIn wsX2_actsByDraw wsX2_goes := goodIn_r _ [155, 1, 16, 17, 18, 10, 19, 12, 20, 14, 21, 210, 211, 212, 213, 214, 215, 216, 217, 218, 219, 220, 221, 222, 223, 224, 225, 226, 227, 228] rfl (by decide +kernel)
set_option maxRecDepth 20000 in
theorem gX2_actsByDraw_X2_goes : GoodIn wsX2_actsByDraw (wsV RX2 108 RX2 yX2_goes wsX2_goes) := goodIn_app (goodIn_of _ (by decide +kernel)) ggX2_actsByDraw_X2_goes
set_option maxRecDepth 20000 in
theorem ggX2_actsByDraw_X2_canRest : GoodIn wsX2_actsByDraw wsX2_canRest := goodIn_r _ [159, 1, 135, 136, 137, 10, 138, 139, 140, 141, 142, 12, 13, 14, 15, 70, 8, 9, 11, 210, 211, 212, 213, 214, 215, 216, 217, 218, 219, 220, 221, 222, 223, 224, 225, 226, 227, 228] rfl (by decide +kernel)
set_option maxRecDepth 20000 in
theorem gX2_actsByDraw_X2_canRest : GoodIn wsX2_actsByDraw (wsV RX2 111 RX2 yX2_canRest wsX2_canRest) := goodIn_app (goodIn_of _ (by decide +kernel)) ggX2_actsByDraw_X2_canRest
set_option maxRecDepth 20000 in
theorem ggX2_actsByDraw_X2_canFall : GoodIn wsX2_actsByDraw wsX2_canFall := goodIn_r _ [163, 1, 164, 14, 165, 166, 167, 168, 135, 136, 137, 10, 138, 139, 140, 141, 142, 12, 13, 15, 70, 8, 9, 11, 7, 210, 211, 212, 213, 214, 215, 216, 217, 218, 219, 220, 221, 222, 223, 224, 225, 226, 227, 228] rfl (by decide +kernel)
set_option maxRecDepth 20000 in
theorem gX2_actsByDraw_X2_canFall : GoodIn wsX2_actsByDraw (wsV RX2 114 RX2 yX2_canFall wsX2_canFall) := goodIn_app (goodIn_of _ (by decide +kernel)) ggX2_actsByDraw_X2_canFall
set_option maxRecDepth 20000 in
theorem ggX2_actsByDraw_X2_falls : GoodIn wsX2_actsByDraw wsX2_falls := goodIn_r _ [172, 1, 46, 48, 27, 28, 29, 7, 8, 9, 10, 11, 12, 13, 14, 15, 173, 174, 175, 61, 176, 63, 177, 178, 179, 53, 54, 55, 56, 57, 78, 79, 80, 81, 82, 83, 84, 85, 86, 87, 88, 89, 90, 91, 98, 92, 93, 94, 95, 64, 96, 97, 39, 40, 41, 20, 21, 180, 181, 182, 183, 184, 99, 100, 101, 102, 103, 104, 105, 106, 107, 108, 109, 110, 111, 112, 113, 114, 115, 116, 117, 118, 119, 120, 121, 122, 123, 124, 125, 126, 127, 128, 129, 130, 131, 132, 133, 134, 185, 186, 187, 5, 188, 49, 50, 51, 16, 17, 18, 19, 189, 190, 191, 192, 193, 2, 3, 4, 6, 194, 195, 196, 197, 198, 199, 200, 201, 202, 203, 204, 205, 206, 207, 208, 209, 210, 211, 212, 213, 214, 215, 216, 217, 218, 219, 220, 221, 222, 223, 224, 225, 226, 227, 228, 229, 230, 231, 232, 233, 234, 235, 236] rfl (by decide +kernel)
set_option maxRecDepth 20000 in
theorem gX2_actsByDraw_X2_falls : GoodIn wsX2_actsByDraw (wsV RX2 117 RX2 yX2_falls wsX2_falls) := goodIn_app (goodIn_of _ (by decide +kernel)) ggX2_actsByDraw_X2_falls
theorem dX2_actsByDraw_0 : decode cX2_actsByDraw 0 = .ok (.aload_n 0, 1) := by decide +kernel
theorem dX2_actsByDraw_1 : decode cX2_actsByDraw 1 = .ok (.invokevirtual 58, 3) := by decide +kernel
theorem dX2_actsByDraw_4 : decode cX2_actsByDraw 4 = .ok (.istore_n 1, 1) := by decide +kernel
theorem dX2_actsByDraw_5 : decode cX2_actsByDraw 5 = .ok (.iload_n 1, 1) := by decide +kernel
theorem dX2_actsByDraw_6 : decode cX2_actsByDraw 6 = .ok (.bipush 6, 2) := by decide +kernel
theorem dX2_actsByDraw_8 : decode cX2_actsByDraw 8 = .ok (.irem, 1) := by decide +kernel
theorem dX2_actsByDraw_9 : decode cX2_actsByDraw 9 = .ok (.istore_n 2, 1) := by decide +kernel
theorem dX2_actsByDraw_10 : decode cX2_actsByDraw 10 = .ok (.aload_n 0, 1) := by decide +kernel
theorem dX2_actsByDraw_11 : decode cX2_actsByDraw 11 = .ok (.getfield 17, 3) := by decide +kernel
theorem dX2_actsByDraw_14 : decode cX2_actsByDraw 14 = .ok (.invokevirtual 94, 3) := by decide +kernel
theorem dX2_actsByDraw_17 : decode cX2_actsByDraw 17 = .ok (.istore_n 3, 1) := by decide +kernel
theorem dX2_actsByDraw_18 : decode cX2_actsByDraw 18 = .ok (.aload_n 0, 1) := by decide +kernel
theorem dX2_actsByDraw_19 : decode cX2_actsByDraw 19 = .ok (.getfield 17, 3) := by decide +kernel
theorem dX2_actsByDraw_22 : decode cX2_actsByDraw 22 = .ok (.invokevirtual 79, 3) := by decide +kernel
theorem dX2_actsByDraw_25 : decode cX2_actsByDraw 25 = .ok (.istore 4, 2) := by decide +kernel
theorem dX2_actsByDraw_27 : decode cX2_actsByDraw 27 = .ok (.iload_n 2, 1) := by decide +kernel
theorem dX2_actsByDraw_28 : decode cX2_actsByDraw 28 = .ok (.iconst 5, 1) := by decide +kernel
theorem dX2_actsByDraw_29 : decode cX2_actsByDraw 29 = .ok (.if_icmp .ne 17, 3) := by decide +kernel
theorem dX2_actsByDraw_32 : decode cX2_actsByDraw 32 = .ok (.aload_n 0, 1) := by decide +kernel
theorem dX2_actsByDraw_33 : decode cX2_actsByDraw 33 = .ok (.invokevirtual 97, 3) := by decide +kernel
theorem dX2_actsByDraw_36 : decode cX2_actsByDraw 36 = .ok (.ifCond .eq 112, 3) := by decide +kernel
theorem dX2_actsByDraw_39 : decode cX2_actsByDraw 39 = .ok (.aload_n 0, 1) := by decide +kernel
theorem dX2_actsByDraw_40 : decode cX2_actsByDraw 40 = .ok (.invokevirtual 101, 3) := by decide +kernel
theorem dX2_actsByDraw_43 : decode cX2_actsByDraw 43 = .ok (.goto 105, 3) := by decide +kernel
theorem dX2_actsByDraw_46 : decode cX2_actsByDraw 46 = .ok (.iload_n 3, 1) := by decide +kernel
theorem dX2_actsByDraw_47 : decode cX2_actsByDraw 47 = .ok (.ifCond .le 101, 3) := by decide +kernel
theorem dX2_actsByDraw_50 : decode cX2_actsByDraw 50 = .ok (.iload_n 1, 1) := by decide +kernel
theorem dX2_actsByDraw_51 : decode cX2_actsByDraw 51 = .ok (.iload_n 3, 1) := by decide +kernel
theorem dX2_actsByDraw_52 : decode cX2_actsByDraw 52 = .ok (.irem, 1) := by decide +kernel
theorem dX2_actsByDraw_53 : decode cX2_actsByDraw 53 = .ok (.istore 5, 2) := by decide +kernel
theorem dX2_actsByDraw_55 : decode cX2_actsByDraw 55 = .ok (.iload_n 2, 1) := by decide +kernel
theorem dX2_actsByDraw_56 : decode cX2_actsByDraw 56 = .ok (.ifCond .ne 40, 3) := by decide +kernel
theorem dX2_actsByDraw_59 : decode cX2_actsByDraw 59 = .ok (.iload 4, 2) := by decide +kernel
theorem dX2_actsByDraw_61 : decode cX2_actsByDraw 61 = .ok (.ifCond .le 87, 3) := by decide +kernel
theorem dX2_actsByDraw_64 : decode cX2_actsByDraw 64 = .ok (.aload_n 0, 1) := by decide +kernel
theorem dX2_actsByDraw_65 : decode cX2_actsByDraw 65 = .ok (.iload 5, 2) := by decide +kernel
theorem dX2_actsByDraw_67 : decode cX2_actsByDraw 67 = .ok (.iload_n 1, 1) := by decide +kernel
theorem dX2_actsByDraw_68 : decode cX2_actsByDraw 68 = .ok (.bipush 6, 2) := by decide +kernel
theorem dX2_actsByDraw_70 : decode cX2_actsByDraw 70 = .ok (.idiv, 1) := by decide +kernel
theorem dX2_actsByDraw_71 : decode cX2_actsByDraw 71 = .ok (.iload 4, 2) := by decide +kernel
theorem dX2_actsByDraw_73 : decode cX2_actsByDraw 73 = .ok (.irem, 1) := by decide +kernel
theorem dX2_actsByDraw_74 : decode cX2_actsByDraw 74 = .ok (.invokevirtual 104, 3) := by decide +kernel
theorem dX2_actsByDraw_77 : decode cX2_actsByDraw 77 = .ok (.ifCond .eq 71, 3) := by decide +kernel
theorem dX2_actsByDraw_80 : decode cX2_actsByDraw 80 = .ok (.aload_n 0, 1) := by decide +kernel
theorem dX2_actsByDraw_81 : decode cX2_actsByDraw 81 = .ok (.iload 5, 2) := by decide +kernel
theorem dX2_actsByDraw_83 : decode cX2_actsByDraw 83 = .ok (.iload_n 1, 1) := by decide +kernel
theorem dX2_actsByDraw_84 : decode cX2_actsByDraw 84 = .ok (.bipush 6, 2) := by decide +kernel
theorem dX2_actsByDraw_86 : decode cX2_actsByDraw 86 = .ok (.idiv, 1) := by decide +kernel
theorem dX2_actsByDraw_87 : decode cX2_actsByDraw 87 = .ok (.iload 4, 2) := by decide +kernel
theorem dX2_actsByDraw_89 : decode cX2_actsByDraw 89 = .ok (.irem, 1) := by decide +kernel
theorem dX2_actsByDraw_90 : decode cX2_actsByDraw 90 = .ok (.invokevirtual 108, 3) := by decide +kernel
theorem dX2_actsByDraw_93 : decode cX2_actsByDraw 93 = .ok (.goto 55, 3) := by decide +kernel
theorem dX2_actsByDraw_96 : decode cX2_actsByDraw 96 = .ok (.iload_n 2, 1) := by decide +kernel
theorem dX2_actsByDraw_97 : decode cX2_actsByDraw 97 = .ok (.iconst 4, 1) := by decide +kernel
theorem dX2_actsByDraw_98 : decode cX2_actsByDraw 98 = .ok (.if_icmp .ne 29, 3) := by decide +kernel
theorem dX2_actsByDraw_101 : decode cX2_actsByDraw 101 = .ok (.iload_n 1, 1) := by decide +kernel
theorem dX2_actsByDraw_102 : decode cX2_actsByDraw 102 = .ok (.bipush 8, 2) := by decide +kernel
theorem dX2_actsByDraw_104 : decode cX2_actsByDraw 104 = .ok (.irem, 1) := by decide +kernel
theorem dX2_actsByDraw_105 : decode cX2_actsByDraw 105 = .ok (.ifCond .ne 43, 3) := by decide +kernel
theorem dX2_actsByDraw_108 : decode cX2_actsByDraw 108 = .ok (.aload_n 0, 1) := by decide +kernel
theorem dX2_actsByDraw_109 : decode cX2_actsByDraw 109 = .ok (.iload 5, 2) := by decide +kernel
theorem dX2_actsByDraw_111 : decode cX2_actsByDraw 111 = .ok (.invokevirtual 111, 3) := by decide +kernel
theorem dX2_actsByDraw_114 : decode cX2_actsByDraw 114 = .ok (.ifCond .eq 34, 3) := by decide +kernel
theorem dX2_actsByDraw_117 : decode cX2_actsByDraw 117 = .ok (.aload_n 0, 1) := by decide +kernel
theorem dX2_actsByDraw_118 : decode cX2_actsByDraw 118 = .ok (.iload 5, 2) := by decide +kernel
theorem dX2_actsByDraw_120 : decode cX2_actsByDraw 120 = .ok (.iconst (-1), 1) := by decide +kernel
theorem dX2_actsByDraw_121 : decode cX2_actsByDraw 121 = .ok (.invokevirtual 108, 3) := by decide +kernel
theorem dX2_actsByDraw_124 : decode cX2_actsByDraw 124 = .ok (.goto 24, 3) := by decide +kernel
theorem dX2_actsByDraw_127 : decode cX2_actsByDraw 127 = .ok (.aload_n 0, 1) := by decide +kernel
theorem dX2_actsByDraw_128 : decode cX2_actsByDraw 128 = .ok (.iload 5, 2) := by decide +kernel
theorem dX2_actsByDraw_130 : decode cX2_actsByDraw 130 = .ok (.iload_n 1, 1) := by decide +kernel
theorem dX2_actsByDraw_131 : decode cX2_actsByDraw 131 = .ok (.iconst 5, 1) := by decide +kernel
theorem dX2_actsByDraw_132 : decode cX2_actsByDraw 132 = .ok (.irem, 1) := by decide +kernel
theorem dX2_actsByDraw_133 : decode cX2_actsByDraw 133 = .ok (.invokevirtual 114, 3) := by decide +kernel
theorem dX2_actsByDraw_136 : decode cX2_actsByDraw 136 = .ok (.ifCond .eq 12, 3) := by decide +kernel
theorem dX2_actsByDraw_139 : decode cX2_actsByDraw 139 = .ok (.aload_n 0, 1) := by decide +kernel
theorem dX2_actsByDraw_140 : decode cX2_actsByDraw 140 = .ok (.iload 5, 2) := by decide +kernel
theorem dX2_actsByDraw_142 : decode cX2_actsByDraw 142 = .ok (.iload_n 1, 1) := by decide +kernel
theorem dX2_actsByDraw_143 : decode cX2_actsByDraw 143 = .ok (.iconst 5, 1) := by decide +kernel
theorem dX2_actsByDraw_144 : decode cX2_actsByDraw 144 = .ok (.irem, 1) := by decide +kernel
theorem dX2_actsByDraw_145 : decode cX2_actsByDraw 145 = .ok (.invokevirtual 117, 3) := by decide +kernel
theorem dX2_actsByDraw_148 : decode cX2_actsByDraw 148 = .ok (.return_, 1) := by decide +kernel
set_option maxRecDepth 20000 in
theorem ggX2_beginForetelling_X11_copyWhole : GoodIn wsX2_beginForetelling wsX11_copyWhole := goodIn_r _ [6, 7, 8, 5, 9, 10, 11, 12, 13] rfl (by decide +kernel)
set_option maxRecDepth 20000 in
theorem gX2_beginForetelling_X11_copyWhole_n123 : GoodIn wsX2_beginForetelling (wsX11_copyWhole) := ggX2_beginForetelling_X11_copyWhole
theorem dX2_beginForetelling_0 : decode cX2_beginForetelling 0 = .ok (.aload_n 0, 1) := by decide +kernel
theorem dX2_beginForetelling_1 : decode cX2_beginForetelling 1 = .ok (.getfield 17, 3) := by decide +kernel
theorem dX2_beginForetelling_4 : decode cX2_beginForetelling 4 = .ok (.getfield 120, 3) := by decide +kernel
theorem dX2_beginForetelling_7 : decode cX2_beginForetelling 7 = .ok (.aload_n 0, 1) := by decide +kernel
theorem dX2_beginForetelling_8 : decode cX2_beginForetelling 8 = .ok (.getfield 11, 3) := by decide +kernel
theorem dX2_beginForetelling_11 : decode cX2_beginForetelling 11 = .ok (.invokestatic 123, 3) := by decide +kernel
theorem dX2_beginForetelling_14 : decode cX2_beginForetelling 14 = .ok (.return_, 1) := by decide +kernel
set_option maxRecDepth 20000 in
theorem ggX2_endForetelling_X11_copyWhole : GoodIn wsX2_endForetelling wsX11_copyWhole := goodIn_r _ [6, 7, 8, 5, 9, 10, 11, 12, 13] rfl (by decide +kernel)
set_option maxRecDepth 20000 in
theorem gX2_endForetelling_X11_copyWhole_n123 : GoodIn wsX2_endForetelling (wsX11_copyWhole) := ggX2_endForetelling_X11_copyWhole
theorem dX2_endForetelling_0 : decode cX2_endForetelling 0 = .ok (.aload_n 0, 1) := by decide +kernel
theorem dX2_endForetelling_1 : decode cX2_endForetelling 1 = .ok (.getfield 11, 3) := by decide +kernel
theorem dX2_endForetelling_4 : decode cX2_endForetelling 4 = .ok (.aload_n 0, 1) := by decide +kernel
theorem dX2_endForetelling_5 : decode cX2_endForetelling 5 = .ok (.getfield 17, 3) := by decide +kernel
theorem dX2_endForetelling_8 : decode cX2_endForetelling 8 = .ok (.getfield 120, 3) := by decide +kernel
theorem dX2_endForetelling_11 : decode cX2_endForetelling 11 = .ok (.invokestatic 123, 3) := by decide +kernel
theorem dX2_endForetelling_14 : decode cX2_endForetelling 14 = .ok (.return_, 1) := by decide +kernel
theorem dX3_init_0 : decode cX3_init 0 = .ok (.aload_n 0, 1) := by decide +kernel
theorem dX3_init_1 : decode cX3_init 1 = .ok (.invokespecial 1, 3) := by decide +kernel
theorem dX3_init_4 : decode cX3_init 4 = .ok (.aload_n 0, 1) := by decide +kernel
theorem dX3_init_5 : decode cX3_init 5 = .ok (.bipush 12, 2) := by decide +kernel
theorem dX3_init_7 : decode cX3_init 7 = .ok (.newarray .int, 2) := by decide +kernel
theorem dX3_init_9 : decode cX3_init 9 = .ok (.putfield 9, 3) := by decide +kernel
theorem dX3_init_12 : decode cX3_init 12 = .ok (.aload_n 0, 1) := by decide +kernel
theorem dX3_init_13 : decode cX3_init 13 = .ok (.bipush 64, 2) := by decide +kernel
theorem dX3_init_15 : decode cX3_init 15 = .ok (.newarray .int, 2) := by decide +kernel
theorem dX3_init_17 : decode cX3_init 17 = .ok (.putfield 15, 3) := by decide +kernel
theorem dX3_init_20 : decode cX3_init 20 = .ok (.aload_n 0, 1) := by decide +kernel
theorem dX3_init_21 : decode cX3_init 21 = .ok (.iconst 0, 1) := by decide +kernel
theorem dX3_init_22 : decode cX3_init 22 = .ok (.putfield 18, 3) := by decide +kernel
theorem dX3_init_25 : decode cX3_init 25 = .ok (.aload_n 0, 1) := by decide +kernel
theorem dX3_init_26 : decode cX3_init 26 = .ok (.aload_n 1, 1) := by decide +kernel
theorem dX3_init_27 : decode cX3_init 27 = .ok (.putfield 22, 3) := by decide +kernel
theorem dX3_init_30 : decode cX3_init 30 = .ok (.return_, 1) := by decide +kernel
set_option maxRecDepth 20000 in
theorem ggX3_easing_X0_textAt : GoodIn wsX3_easing wsX0_textAt := goodIn_r _ [8, 9, 10, 91, 92, 93, 94, 95, 96, 97, 98, 99, 100, 101, 102, 103, 104, 105, 106] rfl (by decide +kernel)
set_option maxRecDepth 20000 in
theorem gX3_easing_X0_textAt : GoodIn wsX3_easing (wsV RX3 31 RX0 yX0_textAt wsX0_textAt) := goodIn_app (goodIn_of _ (by decide +kernel)) ggX3_easing_X0_textAt
set_option maxRecDepth 20000 in
theorem ggX3_easing_X9_hasLaw : GoodIn wsX3_easing wsX9_hasLaw := goodIn_r _ [15, 16, 17, 18, 14, 19, 20, 21, 22, 23, 24, 25, 26, 27, 107, 108, 109, 110] rfl (by decide +kernel)
set_option maxRecDepth 20000 in
theorem gX3_easing_X9_hasLaw : GoodIn wsX3_easing (wsV RX3 35 RX9 yX9_hasLaw wsX9_hasLaw) := goodIn_app (goodIn_of _ (by decide +kernel)) ggX3_easing_X9_hasLaw
set_option maxRecDepth 20000 in
theorem ggX3_easing_X11_at : GoodIn wsX3_easing wsX11_at := goodIn_r _ [23] rfl (by decide +kernel)
set_option maxRecDepth 20000 in
theorem gX3_easing_X11_at_n44 : GoodIn wsX3_easing (wsX11_at) := ggX3_easing_X11_at
set_option maxRecDepth 20000 in
theorem ggX3_easing_X0_see : GoodIn wsX3_easing wsX0_see := goodIn_r _ [31, 32, 21, 22, 23, 91, 92, 93, 94, 95, 96, 97, 98, 99, 100, 101, 102, 103, 104, 105, 106] rfl (by decide +kernel)
set_option maxRecDepth 20000 in
theorem gX3_easing_X0_see : GoodIn wsX3_easing (wsV RX3 50 RX0 yX0_see wsX0_see) := goodIn_app (goodIn_of _ (by decide +kernel)) ggX3_easing_X0_see
set_option maxRecDepth 20000 in
theorem ggX3_easing_X3_nameHouse : GoodIn wsX3_easing wsX3_nameHouse := goodIn_r _ [37, 38, 1, 39, 40, 41, 42, 7, 43, 32, 21, 22, 23, 44, 45, 28, 29, 30, 31, 87, 88, 89, 90, 91, 92, 93, 94, 95, 96, 97, 98, 99, 100, 101, 102, 103, 104, 105, 106] rfl (by decide +kernel)
set_option maxRecDepth 20000 in
theorem gX3_easing_X3_nameHouse : GoodIn wsX3_easing (wsV RX3 54 RX3 yX3_nameHouse wsX3_nameHouse) := goodIn_app (goodIn_of _ (by decide +kernel)) ggX3_easing_X3_nameHouse
set_option maxRecDepth 20000 in
theorem ggX3_easing_X3_nameClown : GoodIn wsX3_easing wsX3_nameClown := goodIn_r _ [49, 38, 1, 3, 50, 21, 22, 23, 44, 45, 28, 29, 30, 7, 31, 32, 87, 88, 89, 90, 91, 92, 93, 94, 95, 96, 97, 98, 99, 100, 101, 102, 103, 104, 105, 106] rfl (by decide +kernel)
set_option maxRecDepth 20000 in
theorem gX3_easing_X3_nameClown : GoodIn wsX3_easing (wsV RX3 58 RX3 yX3_nameClown wsX3_nameClown) := goodIn_app (goodIn_of _ (by decide +kernel)) ggX3_easing_X3_nameClown
set_option maxRecDepth 20000 in
theorem ggX3_easing_X3_worked : GoodIn wsX3_easing wsX3_worked := goodIn_r _ [54, 55, 38, 56, 25, 26, 14, 27, 20, 21, 22, 23, 57, 17, 18, 19, 58, 59, 60, 36, 61, 62, 44, 45, 63, 64, 65, 66, 67, 68, 69, 70, 1, 71, 72, 73, 74, 75, 76, 77, 78, 79, 80, 81, 82, 83, 84, 85, 86, 87, 88, 89, 90, 107, 108, 109, 110, 91, 92, 93, 94, 95, 96, 97, 98, 99, 100, 101, 102, 103, 104, 105, 106] rfl (by decide +kernel)
set_option maxRecDepth 20000 in
theorem gX3_easing_X3_worked : GoodIn wsX3_easing (wsV RX3 62 RX3 yX3_worked wsX3_worked) := goodIn_app (goodIn_of _ (by decide +kernel)) ggX3_easing_X3_worked
set_option maxRecDepth 20000 in
theorem ggX3_easing_X11_held : GoodIn wsX3_easing wsX11_held := goodIn_r _ [73] rfl (by decide +kernel)
set_option maxRecDepth 20000 in
theorem gX3_easing_X11_held_n66 : GoodIn wsX3_easing (wsX11_held) := ggX3_easing_X11_held
theorem dX3_easing_0 : decode cX3_easing 0 = .ok (.aload_n 0, 1) := by decide +kernel
theorem dX3_easing_1 : decode cX3_easing 1 = .ok (.getfield 22, 3) := by decide +kernel
theorem dX3_easing_4 : decode cX3_easing 4 = .ok (.aload_n 0, 1) := by decide +kernel
theorem dX3_easing_5 : decode cX3_easing 5 = .ok (.getfield 22, 3) := by decide +kernel
theorem dX3_easing_8 : decode cX3_easing 8 = .ok (.getfield 26, 3) := by decide +kernel
theorem dX3_easing_11 : decode cX3_easing 11 = .ok (.invokevirtual 31, 3) := by decide +kernel
theorem dX3_easing_14 : decode cX3_easing 14 = .ok (.astore_n 3, 1) := by decide +kernel
theorem dX3_easing_15 : decode cX3_easing 15 = .ok (.aload_n 3, 1) := by decide +kernel
theorem dX3_easing_16 : decode cX3_easing 16 = .ok (.ifnull 11, 3) := by decide +kernel
theorem dX3_easing_19 : decode cX3_easing 19 = .ok (.aload_n 3, 1) := by decide +kernel
theorem dX3_easing_20 : decode cX3_easing 20 = .ok (.iconst 0, 1) := by decide +kernel
theorem dX3_easing_21 : decode cX3_easing 21 = .ok (.invokevirtual 35, 3) := by decide +kernel
theorem dX3_easing_24 : decode cX3_easing 24 = .ok (.ifCond .ne 17, 3) := by decide +kernel
theorem dX3_easing_27 : decode cX3_easing 27 = .ok (.aload_n 0, 1) := by decide +kernel
theorem dX3_easing_28 : decode cX3_easing 28 = .ok (.getfield 22, 3) := by decide +kernel
theorem dX3_easing_31 : decode cX3_easing 31 = .ok (.getfield 41, 3) := by decide +kernel
theorem dX3_easing_34 : decode cX3_easing 34 = .ok (.iload_n 1, 1) := by decide +kernel
theorem dX3_easing_35 : decode cX3_easing 35 = .ok (.invokestatic 44, 3) := by decide +kernel
theorem dX3_easing_38 : decode cX3_easing 38 = .ok (.iload_n 2, 1) := by decide +kernel
theorem dX3_easing_39 : decode cX3_easing 39 = .ok (.iadd, 1) := by decide +kernel
theorem dX3_easing_40 : decode cX3_easing 40 = .ok (.ireturn, 1) := by decide +kernel
theorem dX3_easing_41 : decode cX3_easing 41 = .ok (.aload_n 0, 1) := by decide +kernel
theorem dX3_easing_42 : decode cX3_easing 42 = .ok (.aload_n 0, 1) := by decide +kernel
theorem dX3_easing_43 : decode cX3_easing 43 = .ok (.getfield 22, 3) := by decide +kernel
theorem dX3_easing_46 : decode cX3_easing 46 = .ok (.bipush 29, 2) := by decide +kernel
theorem dX3_easing_48 : decode cX3_easing 48 = .ok (.iload_n 1, 1) := by decide +kernel
theorem dX3_easing_49 : decode cX3_easing 49 = .ok (.invokevirtual 50, 3) := by decide +kernel
theorem dX3_easing_52 : decode cX3_easing 52 = .ok (.invokevirtual 54, 3) := by decide +kernel
theorem dX3_easing_55 : decode cX3_easing 55 = .ok (.aload_n 0, 1) := by decide +kernel
theorem dX3_easing_56 : decode cX3_easing 56 = .ok (.iload_n 1, 1) := by decide +kernel
theorem dX3_easing_57 : decode cX3_easing 57 = .ok (.iload_n 2, 1) := by decide +kernel
theorem dX3_easing_58 : decode cX3_easing 58 = .ok (.invokevirtual 58, 3) := by decide +kernel
theorem dX3_easing_61 : decode cX3_easing 61 = .ok (.aload_n 0, 1) := by decide +kernel
theorem dX3_easing_62 : decode cX3_easing 62 = .ok (.aload_n 3, 1) := by decide +kernel
theorem dX3_easing_63 : decode cX3_easing 63 = .ok (.iconst 0, 1) := by decide +kernel
theorem dX3_easing_64 : decode cX3_easing 64 = .ok (.invokevirtual 62, 3) := by decide +kernel
theorem dX3_easing_67 : decode cX3_easing 67 = .ok (.iconst 0, 1) := by decide +kernel
theorem dX3_easing_68 : decode cX3_easing 68 = .ok (.bipush 99, 2) := by decide +kernel
theorem dX3_easing_70 : decode cX3_easing 70 = .ok (.invokestatic 66, 3) := by decide +kernel
theorem dX3_easing_73 : decode cX3_easing 73 = .ok (.ireturn, 1) := by decide +kernel
set_option maxRecDepth 20000 in
theorem ggX3_laughing_X0_see : GoodIn wsX3_laughing wsX0_see := goodIn_r _ [7, 8, 9, 10, 11, 91, 92, 93, 94, 95, 96, 97, 98, 99, 100, 101, 102, 103, 104, 105, 106] rfl (by decide +kernel)
set_option maxRecDepth 20000 in
theorem gX3_laughing_X0_see : GoodIn wsX3_laughing (wsV RX3 50 RX0 yX0_see wsX0_see) := goodIn_app (goodIn_of _ (by decide +kernel)) ggX3_laughing_X0_see
set_option maxRecDepth 20000 in
theorem ggX3_laughing_X0_textAt : GoodIn wsX3_laughing wsX0_textAt := goodIn_r _ [15, 16, 17, 91, 92, 93, 94, 95, 96, 97, 98, 99, 100, 101, 102, 103, 104, 105, 106] rfl (by decide +kernel)
set_option maxRecDepth 20000 in
theorem gX3_laughing_X0_textAt : GoodIn wsX3_laughing (wsV RX3 31 RX0 yX0_textAt wsX0_textAt) := goodIn_app (goodIn_of _ (by decide +kernel)) ggX3_laughing_X0_textAt
set_option maxRecDepth 20000 in
theorem ggX3_laughing_X9_hasLaw : GoodIn wsX3_laughing wsX9_hasLaw := goodIn_r _ [22, 23, 24, 25, 21, 26, 27, 9, 10, 11, 28, 29, 30, 31, 107, 108, 109, 110] rfl (by decide +kernel)
set_option maxRecDepth 20000 in
theorem gX3_laughing_X9_hasLaw : GoodIn wsX3_laughing (wsV RX3 35 RX9 yX9_hasLaw wsX9_hasLaw) := goodIn_app (goodIn_of _ (by decide +kernel)) ggX3_laughing_X9_hasLaw
set_option maxRecDepth 20000 in
theorem ggX3_laughing_X3_nameHouse : GoodIn wsX3_laughing wsX3_nameHouse := goodIn_r _ [36, 37, 1, 38, 39, 40, 41, 6, 42, 8, 9, 10, 11, 43, 44, 3, 4, 5, 7, 87, 88, 89, 90, 91, 92, 93, 94, 95, 96, 97, 98, 99, 100, 101, 102, 103, 104, 105, 106] rfl (by decide +kernel)
set_option maxRecDepth 20000 in
theorem gX3_laughing_X3_nameHouse : GoodIn wsX3_laughing (wsV RX3 54 RX3 yX3_nameHouse wsX3_nameHouse) := goodIn_app (goodIn_of _ (by decide +kernel)) ggX3_laughing_X3_nameHouse
set_option maxRecDepth 20000 in
theorem ggX3_laughing_X3_nameClown : GoodIn wsX3_laughing wsX3_nameClown := goodIn_r _ [48, 37, 1, 49, 50, 9, 10, 11, 43, 44, 3, 4, 5, 6, 7, 8, 87, 88, 89, 90, 91, 92, 93, 94, 95, 96, 97, 98, 99, 100, 101, 102, 103, 104, 105, 106] rfl (by decide +kernel)
set_option maxRecDepth 20000 in
theorem gX3_laughing_X3_nameClown : GoodIn wsX3_laughing (wsV RX3 58 RX3 yX3_nameClown wsX3_nameClown) := goodIn_app (goodIn_of _ (by decide +kernel)) ggX3_laughing_X3_nameClown
set_option maxRecDepth 20000 in
theorem ggX3_laughing_X3_worked : GoodIn wsX3_laughing wsX3_worked := goodIn_r _ [54, 55, 37, 56, 29, 30, 21, 31, 27, 9, 10, 11, 57, 24, 25, 26, 58, 59, 60, 35, 61, 62, 43, 44, 63, 64, 65, 66, 67, 68, 69, 70, 1, 71, 72, 73, 74, 75, 76, 77, 78, 79, 80, 81, 82, 83, 84, 85, 86, 87, 88, 89, 90, 107, 108, 109, 110, 91, 92, 93, 94, 95, 96, 97, 98, 99, 100, 101, 102, 103, 104, 105, 106] rfl (by decide +kernel)
set_option maxRecDepth 20000 in
theorem gX3_laughing_X3_worked : GoodIn wsX3_laughing (wsV RX3 62 RX3 yX3_worked wsX3_worked) := goodIn_app (goodIn_of _ (by decide +kernel)) ggX3_laughing_X3_worked
set_option maxRecDepth 20000 in
theorem ggX3_laughing_X11_held : GoodIn wsX3_laughing wsX11_held := goodIn_r _ [73] rfl (by decide +kernel)
set_option maxRecDepth 20000 in
theorem gX3_laughing_X11_held_n66 : GoodIn wsX3_laughing (wsX11_held) := ggX3_laughing_X11_held
theorem dX3_laughing_0 : decode cX3_laughing 0 = .ok (.aload_n 0, 1) := by decide +kernel
theorem dX3_laughing_1 : decode cX3_laughing 1 = .ok (.getfield 22, 3) := by decide +kernel
theorem dX3_laughing_4 : decode cX3_laughing 4 = .ok (.bipush 29, 2) := by decide +kernel
theorem dX3_laughing_6 : decode cX3_laughing 6 = .ok (.iload_n 1, 1) := by decide +kernel
theorem dX3_laughing_7 : decode cX3_laughing 7 = .ok (.invokevirtual 50, 3) := by decide +kernel
theorem dX3_laughing_10 : decode cX3_laughing 10 = .ok (.istore_n 3, 1) := by decide +kernel
theorem dX3_laughing_11 : decode cX3_laughing 11 = .ok (.aload_n 0, 1) := by decide +kernel
theorem dX3_laughing_12 : decode cX3_laughing 12 = .ok (.getfield 22, 3) := by decide +kernel
theorem dX3_laughing_15 : decode cX3_laughing 15 = .ok (.aload_n 0, 1) := by decide +kernel
theorem dX3_laughing_16 : decode cX3_laughing 16 = .ok (.getfield 22, 3) := by decide +kernel
theorem dX3_laughing_19 : decode cX3_laughing 19 = .ok (.getfield 26, 3) := by decide +kernel
theorem dX3_laughing_22 : decode cX3_laughing 22 = .ok (.invokevirtual 31, 3) := by decide +kernel
theorem dX3_laughing_25 : decode cX3_laughing 25 = .ok (.astore 4, 2) := by decide +kernel
theorem dX3_laughing_27 : decode cX3_laughing 27 = .ok (.aload 4, 2) := by decide +kernel
theorem dX3_laughing_29 : decode cX3_laughing 29 = .ok (.ifnull 12, 3) := by decide +kernel
theorem dX3_laughing_32 : decode cX3_laughing 32 = .ok (.aload 4, 2) := by decide +kernel
theorem dX3_laughing_34 : decode cX3_laughing 34 = .ok (.iconst 1, 1) := by decide +kernel
theorem dX3_laughing_35 : decode cX3_laughing 35 = .ok (.invokevirtual 35, 3) := by decide +kernel
theorem dX3_laughing_38 : decode cX3_laughing 38 = .ok (.ifCond .ne 14, 3) := by decide +kernel
theorem dX3_laughing_41 : decode cX3_laughing 41 = .ok (.aload_n 0, 1) := by decide +kernel
theorem dX3_laughing_42 : decode cX3_laughing 42 = .ok (.getfield 22, 3) := by decide +kernel
theorem dX3_laughing_45 : decode cX3_laughing 45 = .ok (.bipush 6, 2) := by decide +kernel
theorem dX3_laughing_47 : decode cX3_laughing 47 = .ok (.iload_n 3, 1) := by decide +kernel
theorem dX3_laughing_48 : decode cX3_laughing 48 = .ok (.invokevirtual 50, 3) := by decide +kernel
theorem dX3_laughing_51 : decode cX3_laughing 51 = .ok (.ireturn, 1) := by decide +kernel
theorem dX3_laughing_52 : decode cX3_laughing 52 = .ok (.aload_n 0, 1) := by decide +kernel
theorem dX3_laughing_53 : decode cX3_laughing 53 = .ok (.iload_n 3, 1) := by decide +kernel
theorem dX3_laughing_54 : decode cX3_laughing 54 = .ok (.invokevirtual 54, 3) := by decide +kernel
theorem dX3_laughing_57 : decode cX3_laughing 57 = .ok (.aload_n 0, 1) := by decide +kernel
theorem dX3_laughing_58 : decode cX3_laughing 58 = .ok (.iload_n 1, 1) := by decide +kernel
theorem dX3_laughing_59 : decode cX3_laughing 59 = .ok (.iload_n 2, 1) := by decide +kernel
theorem dX3_laughing_60 : decode cX3_laughing 60 = .ok (.invokevirtual 58, 3) := by decide +kernel
theorem dX3_laughing_63 : decode cX3_laughing 63 = .ok (.aload_n 0, 1) := by decide +kernel
theorem dX3_laughing_64 : decode cX3_laughing 64 = .ok (.aload 4, 2) := by decide +kernel
theorem dX3_laughing_66 : decode cX3_laughing 66 = .ok (.iconst 1, 1) := by decide +kernel
theorem dX3_laughing_67 : decode cX3_laughing 67 = .ok (.invokevirtual 62, 3) := by decide +kernel
theorem dX3_laughing_70 : decode cX3_laughing 70 = .ok (.iconst 0, 1) := by decide +kernel
theorem dX3_laughing_71 : decode cX3_laughing 71 = .ok (.bipush 10, 2) := by decide +kernel
theorem dX3_laughing_73 : decode cX3_laughing 73 = .ok (.invokestatic 66, 3) := by decide +kernel
theorem dX3_laughing_76 : decode cX3_laughing 76 = .ok (.ireturn, 1) := by decide +kernel
set_option maxRecDepth 20000 in
theorem ggX3_growing_X0_clownsAt : GoodIn wsX3_growing wsX0_clownsAt := goodIn_r _ [7, 8, 9, 10, 6, 11, 12, 13, 14, 15, 16, 17, 18, 19, 20, 21, 22, 23, 98, 99, 100, 101, 102, 103, 104, 105, 106, 107, 108, 109, 110, 111, 112, 113] rfl (by decide +kernel)
set_option maxRecDepth 20000 in
theorem gX3_growing_X0_clownsAt : GoodIn wsX3_growing (wsV RX3 70 RX0 yX0_clownsAt wsX0_clownsAt) := goodIn_app (goodIn_of _ (by decide +kernel)) ggX3_growing_X0_clownsAt
set_option maxRecDepth 20000 in
theorem ggX3_growing_J6_bitCount_0f7a4 : GoodIn wsX3_growing wsJ6_bitCount_0f7a4 := goodIn_r _ [27, 28, 29, 30] rfl (by decide +kernel)
set_option maxRecDepth 20000 in
theorem gX3_growing_J6_bitCount_0f7a4 : GoodIn wsX3_growing (va_wsS RX3 74 yJ6_bitCount_0f7a4 wsJ6_bitCount_0f7a4) := goodIn_app (goodIn_of _ (by decide +kernel)) ggX3_growing_J6_bitCount_0f7a4
set_option maxRecDepth 20000 in
theorem ggX3_growing_X9_hasLaw : GoodIn wsX3_growing wsX9_hasLaw := goodIn_r _ [35, 36, 37, 38, 34, 39, 40, 17, 18, 19, 41, 42, 43, 44, 114, 115, 116, 117] rfl (by decide +kernel)
set_option maxRecDepth 20000 in
theorem gX3_growing_X9_hasLaw : GoodIn wsX3_growing (wsV RX3 35 RX9 yX9_hasLaw wsX9_hasLaw) := goodIn_app (goodIn_of _ (by decide +kernel)) ggX3_growing_X9_hasLaw
set_option maxRecDepth 20000 in
theorem ggX3_growing_X3_nameHouse : GoodIn wsX3_growing wsX3_nameHouse := goodIn_r _ [49, 2, 1, 50, 51, 52, 53, 6, 54, 12, 17, 18, 19, 55, 56, 57, 21, 22, 23, 94, 95, 96, 97, 98, 99, 100, 101, 102, 103, 104, 105, 106, 107, 108, 109, 110, 111, 112, 113] rfl (by decide +kernel)
set_option maxRecDepth 20000 in
theorem gX3_growing_X3_nameHouse : GoodIn wsX3_growing (wsV RX3 54 RX3 yX3_nameHouse wsX3_nameHouse) := goodIn_app (goodIn_of _ (by decide +kernel)) ggX3_growing_X3_nameHouse
set_option maxRecDepth 20000 in
theorem ggX3_growing_X11_put : GoodIn wsX3_growing wsX11_put := goodIn_r _ [56] rfl (by decide +kernel)
set_option maxRecDepth 20000 in
theorem gX3_growing_X11_put_n79 : GoodIn wsX3_growing (wsX11_put) := ggX3_growing_X11_put
set_option maxRecDepth 20000 in
theorem ggX3_growing_X3_worked : GoodIn wsX3_growing wsX3_worked := goodIn_r _ [61, 62, 2, 63, 42, 43, 34, 44, 40, 17, 18, 19, 64, 37, 38, 39, 65, 66, 67, 48, 68, 69, 55, 56, 70, 71, 72, 73, 74, 75, 76, 77, 1, 78, 79, 80, 81, 82, 83, 84, 85, 86, 87, 88, 89, 90, 91, 92, 93, 94, 95, 96, 97, 114, 115, 116, 117, 98, 99, 100, 101, 102, 103, 104, 105, 106, 107, 108, 109, 110, 111, 112, 113] rfl (by decide +kernel)
set_option maxRecDepth 20000 in
theorem gX3_growing_X3_worked : GoodIn wsX3_growing (wsV RX3 62 RX3 yX3_worked wsX3_worked) := goodIn_app (goodIn_of _ (by decide +kernel)) ggX3_growing_X3_worked
set_option maxRecDepth 20000 in
theorem ggX3_growing_X11_held : GoodIn wsX3_growing wsX11_held := goodIn_r _ [80] rfl (by decide +kernel)
set_option maxRecDepth 20000 in
theorem gX3_growing_X11_held_n66 : GoodIn wsX3_growing (wsX11_held) := ggX3_growing_X11_held
theorem dX3_growing_0 : decode cX3_growing 0 = .ok (.aload_n 0, 1) := by decide +kernel
theorem dX3_growing_1 : decode cX3_growing 1 = .ok (.getfield 22, 3) := by decide +kernel
theorem dX3_growing_4 : decode cX3_growing 4 = .ok (.iload_n 2, 1) := by decide +kernel
theorem dX3_growing_5 : decode cX3_growing 5 = .ok (.invokevirtual 70, 3) := by decide +kernel
theorem dX3_growing_8 : decode cX3_growing 8 = .ok (.invokestatic 74, 3) := by decide +kernel
theorem dX3_growing_11 : decode cX3_growing 11 = .ok (.istore_n 3, 1) := by decide +kernel
theorem dX3_growing_12 : decode cX3_growing 12 = .ok (.aload_n 1, 1) := by decide +kernel
theorem dX3_growing_13 : decode cX3_growing 13 = .ok (.ifnull 11, 3) := by decide +kernel
theorem dX3_growing_16 : decode cX3_growing 16 = .ok (.aload_n 1, 1) := by decide +kernel
theorem dX3_growing_17 : decode cX3_growing 17 = .ok (.iconst 2, 1) := by decide +kernel
theorem dX3_growing_18 : decode cX3_growing 18 = .ok (.invokevirtual 35, 3) := by decide +kernel
theorem dX3_growing_21 : decode cX3_growing 21 = .ok (.ifCond .ne 13, 3) := by decide +kernel
theorem dX3_growing_24 : decode cX3_growing 24 = .ok (.iload_n 3, 1) := by decide +kernel
theorem dX3_growing_25 : decode cX3_growing 25 = .ok (.ifCond .ne 7, 3) := by decide +kernel
theorem dX3_growing_28 : decode cX3_growing 28 = .ok (.iconst 1, 1) := by decide +kernel
theorem dX3_growing_29 : decode cX3_growing 29 = .ok (.goto 4, 3) := by decide +kernel
theorem dX3_growing_32 : decode cX3_growing 32 = .ok (.iconst 0, 1) := by decide +kernel
theorem dX3_growing_33 : decode cX3_growing 33 = .ok (.ireturn, 1) := by decide +kernel
theorem dX3_growing_34 : decode cX3_growing 34 = .ok (.aload_n 0, 1) := by decide +kernel
theorem dX3_growing_35 : decode cX3_growing 35 = .ok (.iload_n 2, 1) := by decide +kernel
theorem dX3_growing_36 : decode cX3_growing 36 = .ok (.invokevirtual 54, 3) := by decide +kernel
theorem dX3_growing_39 : decode cX3_growing 39 = .ok (.aload_n 0, 1) := by decide +kernel
theorem dX3_growing_40 : decode cX3_growing 40 = .ok (.getfield 9, 3) := by decide +kernel
theorem dX3_growing_43 : decode cX3_growing 43 = .ok (.bipush 11, 2) := by decide +kernel
theorem dX3_growing_45 : decode cX3_growing 45 = .ok (.iload_n 3, 1) := by decide +kernel
theorem dX3_growing_46 : decode cX3_growing 46 = .ok (.invokestatic 79, 3) := by decide +kernel
theorem dX3_growing_49 : decode cX3_growing 49 = .ok (.aload_n 0, 1) := by decide +kernel
theorem dX3_growing_50 : decode cX3_growing 50 = .ok (.aload_n 1, 1) := by decide +kernel
theorem dX3_growing_51 : decode cX3_growing 51 = .ok (.iconst 2, 1) := by decide +kernel
theorem dX3_growing_52 : decode cX3_growing 52 = .ok (.invokevirtual 62, 3) := by decide +kernel
theorem dX3_growing_55 : decode cX3_growing 55 = .ok (.iconst 0, 1) := by decide +kernel
theorem dX3_growing_56 : decode cX3_growing 56 = .ok (.bipush 9, 2) := by decide +kernel
theorem dX3_growing_58 : decode cX3_growing 58 = .ok (.invokestatic 66, 3) := by decide +kernel
theorem dX3_growing_61 : decode cX3_growing 61 = .ok (.ireturn, 1) := by decide +kernel
set_option maxRecDepth 20000 in
theorem ggX3_nameHouse_X0_today : GoodIn wsX3_nameHouse wsX0_today := goodIn_r _ [8, 9, 10, 11, 12, 23, 24, 25, 26, 27, 28, 29, 30, 31, 32, 33, 34, 35, 36, 37, 38] rfl (by decide +kernel)
set_option maxRecDepth 20000 in
theorem gX3_nameHouse_X0_today : GoodIn wsX3_nameHouse (wsV RX3 83 RX0 yX0_today wsX0_today) := goodIn_app (goodIn_of _ (by decide +kernel)) ggX3_nameHouse_X0_today
set_option maxRecDepth 20000 in
theorem ggX3_nameHouse_X11_put : GoodIn wsX3_nameHouse wsX11_put := goodIn_r _ [14] rfl (by decide +kernel)
set_option maxRecDepth 20000 in
theorem gX3_nameHouse_X11_put_n79 : GoodIn wsX3_nameHouse (wsX11_put) := ggX3_nameHouse_X11_put
set_option maxRecDepth 20000 in
theorem ggX3_nameHouse_X11_at : GoodIn wsX3_nameHouse wsX11_at := goodIn_r _ [12] rfl (by decide +kernel)
set_option maxRecDepth 20000 in
theorem gX3_nameHouse_X11_at_n44 : GoodIn wsX3_nameHouse (wsX11_at) := ggX3_nameHouse_X11_at
set_option maxRecDepth 20000 in
theorem ggX3_nameHouse_X0_see : GoodIn wsX3_nameHouse wsX0_see := goodIn_r _ [18, 9, 10, 11, 12, 23, 24, 25, 26, 27, 28, 29, 30, 31, 32, 33, 34, 35, 36, 37, 38] rfl (by decide +kernel)
set_option maxRecDepth 20000 in
theorem gX3_nameHouse_X0_see : GoodIn wsX3_nameHouse (wsV RX3 50 RX0 yX0_see wsX0_see) := goodIn_app (goodIn_of _ (by decide +kernel)) ggX3_nameHouse_X0_see
theorem dX3_nameHouse_0 : decode cX3_nameHouse 0 = .ok (.aload_n 0, 1) := by decide +kernel
theorem dX3_nameHouse_1 : decode cX3_nameHouse 1 = .ok (.getfield 9, 3) := by decide +kernel
theorem dX3_nameHouse_4 : decode cX3_nameHouse 4 = .ok (.iconst 0, 1) := by decide +kernel
theorem dX3_nameHouse_5 : decode cX3_nameHouse 5 = .ok (.aload_n 0, 1) := by decide +kernel
theorem dX3_nameHouse_6 : decode cX3_nameHouse 6 = .ok (.getfield 22, 3) := by decide +kernel
theorem dX3_nameHouse_9 : decode cX3_nameHouse 9 = .ok (.invokevirtual 83, 3) := by decide +kernel
theorem dX3_nameHouse_12 : decode cX3_nameHouse 12 = .ok (.invokestatic 79, 3) := by decide +kernel
theorem dX3_nameHouse_15 : decode cX3_nameHouse 15 = .ok (.aload_n 0, 1) := by decide +kernel
theorem dX3_nameHouse_16 : decode cX3_nameHouse 16 = .ok (.getfield 9, 3) := by decide +kernel
theorem dX3_nameHouse_19 : decode cX3_nameHouse 19 = .ok (.iconst 1, 1) := by decide +kernel
theorem dX3_nameHouse_20 : decode cX3_nameHouse 20 = .ok (.aload_n 0, 1) := by decide +kernel
theorem dX3_nameHouse_21 : decode cX3_nameHouse 21 = .ok (.getfield 22, 3) := by decide +kernel
theorem dX3_nameHouse_24 : decode cX3_nameHouse 24 = .ok (.getfield 87, 3) := by decide +kernel
theorem dX3_nameHouse_27 : decode cX3_nameHouse 27 = .ok (.iload_n 1, 1) := by decide +kernel
theorem dX3_nameHouse_28 : decode cX3_nameHouse 28 = .ok (.invokestatic 44, 3) := by decide +kernel
theorem dX3_nameHouse_31 : decode cX3_nameHouse 31 = .ok (.invokestatic 79, 3) := by decide +kernel
theorem dX3_nameHouse_34 : decode cX3_nameHouse 34 = .ok (.aload_n 0, 1) := by decide +kernel
theorem dX3_nameHouse_35 : decode cX3_nameHouse 35 = .ok (.getfield 9, 3) := by decide +kernel
theorem dX3_nameHouse_38 : decode cX3_nameHouse 38 = .ok (.iconst 2, 1) := by decide +kernel
theorem dX3_nameHouse_39 : decode cX3_nameHouse 39 = .ok (.aload_n 0, 1) := by decide +kernel
theorem dX3_nameHouse_40 : decode cX3_nameHouse 40 = .ok (.getfield 22, 3) := by decide +kernel
theorem dX3_nameHouse_43 : decode cX3_nameHouse 43 = .ok (.iconst 0, 1) := by decide +kernel
theorem dX3_nameHouse_44 : decode cX3_nameHouse 44 = .ok (.iload_n 1, 1) := by decide +kernel
theorem dX3_nameHouse_45 : decode cX3_nameHouse 45 = .ok (.invokevirtual 50, 3) := by decide +kernel
theorem dX3_nameHouse_48 : decode cX3_nameHouse 48 = .ok (.invokestatic 79, 3) := by decide +kernel
theorem dX3_nameHouse_51 : decode cX3_nameHouse 51 = .ok (.aload_n 0, 1) := by decide +kernel
theorem dX3_nameHouse_52 : decode cX3_nameHouse 52 = .ok (.getfield 9, 3) := by decide +kernel
theorem dX3_nameHouse_55 : decode cX3_nameHouse 55 = .ok (.iconst 3, 1) := by decide +kernel
theorem dX3_nameHouse_56 : decode cX3_nameHouse 56 = .ok (.aload_n 0, 1) := by decide +kernel
theorem dX3_nameHouse_57 : decode cX3_nameHouse 57 = .ok (.getfield 22, 3) := by decide +kernel
theorem dX3_nameHouse_60 : decode cX3_nameHouse 60 = .ok (.bipush 6, 2) := by decide +kernel
theorem dX3_nameHouse_62 : decode cX3_nameHouse 62 = .ok (.iload_n 1, 1) := by decide +kernel
theorem dX3_nameHouse_63 : decode cX3_nameHouse 63 = .ok (.invokevirtual 50, 3) := by decide +kernel
theorem dX3_nameHouse_66 : decode cX3_nameHouse 66 = .ok (.invokestatic 79, 3) := by decide +kernel
theorem dX3_nameHouse_69 : decode cX3_nameHouse 69 = .ok (.aload_n 0, 1) := by decide +kernel
theorem dX3_nameHouse_70 : decode cX3_nameHouse 70 = .ok (.getfield 9, 3) := by decide +kernel
theorem dX3_nameHouse_73 : decode cX3_nameHouse 73 = .ok (.iconst 4, 1) := by decide +kernel
theorem dX3_nameHouse_74 : decode cX3_nameHouse 74 = .ok (.aload_n 0, 1) := by decide +kernel
theorem dX3_nameHouse_75 : decode cX3_nameHouse 75 = .ok (.getfield 22, 3) := by decide +kernel
theorem dX3_nameHouse_78 : decode cX3_nameHouse 78 = .ok (.bipush 18, 2) := by decide +kernel
theorem dX3_nameHouse_80 : decode cX3_nameHouse 80 = .ok (.iload_n 1, 1) := by decide +kernel
theorem dX3_nameHouse_81 : decode cX3_nameHouse 81 = .ok (.invokevirtual 50, 3) := by decide +kernel
theorem dX3_nameHouse_84 : decode cX3_nameHouse 84 = .ok (.invokestatic 79, 3) := by decide +kernel
theorem dX3_nameHouse_87 : decode cX3_nameHouse 87 = .ok (.aload_n 0, 1) := by decide +kernel
theorem dX3_nameHouse_88 : decode cX3_nameHouse 88 = .ok (.getfield 9, 3) := by decide +kernel
theorem dX3_nameHouse_91 : decode cX3_nameHouse 91 = .ok (.iconst 5, 1) := by decide +kernel
theorem dX3_nameHouse_92 : decode cX3_nameHouse 92 = .ok (.iload_n 1, 1) := by decide +kernel
theorem dX3_nameHouse_93 : decode cX3_nameHouse 93 = .ok (.invokestatic 79, 3) := by decide +kernel
theorem dX3_nameHouse_96 : decode cX3_nameHouse 96 = .ok (.return_, 1) := by decide +kernel
set_option maxRecDepth 20000 in
theorem ggX3_nameClown_X11_at : GoodIn wsX3_nameClown wsX11_at := goodIn_r _ [7] rfl (by decide +kernel)
set_option maxRecDepth 20000 in
theorem gX3_nameClown_X11_at_n44 : GoodIn wsX3_nameClown (wsX11_at) := ggX3_nameClown_X11_at
set_option maxRecDepth 20000 in
theorem ggX3_nameClown_X11_put : GoodIn wsX3_nameClown wsX11_put := goodIn_r _ [9] rfl (by decide +kernel)
set_option maxRecDepth 20000 in
theorem gX3_nameClown_X11_put_n79 : GoodIn wsX3_nameClown (wsX11_put) := ggX3_nameClown_X11_put
set_option maxRecDepth 20000 in
theorem ggX3_nameClown_X0_see : GoodIn wsX3_nameClown wsX0_see := goodIn_r _ [14, 15, 5, 6, 7, 20, 21, 22, 23, 24, 25, 26, 27, 28, 29, 30, 31, 32, 33, 34, 35] rfl (by decide +kernel)
set_option maxRecDepth 20000 in
theorem gX3_nameClown_X0_see : GoodIn wsX3_nameClown (wsV RX3 50 RX0 yX0_see wsX0_see) := goodIn_app (goodIn_of _ (by decide +kernel)) ggX3_nameClown_X0_see
theorem dX3_nameClown_0 : decode cX3_nameClown 0 = .ok (.aload_n 0, 1) := by decide +kernel
theorem dX3_nameClown_1 : decode cX3_nameClown 1 = .ok (.getfield 9, 3) := by decide +kernel
theorem dX3_nameClown_4 : decode cX3_nameClown 4 = .ok (.bipush 6, 2) := by decide +kernel
theorem dX3_nameClown_6 : decode cX3_nameClown 6 = .ok (.aload_n 0, 1) := by decide +kernel
theorem dX3_nameClown_7 : decode cX3_nameClown 7 = .ok (.getfield 22, 3) := by decide +kernel
theorem dX3_nameClown_10 : decode cX3_nameClown 10 = .ok (.getfield 41, 3) := by decide +kernel
theorem dX3_nameClown_13 : decode cX3_nameClown 13 = .ok (.iload_n 1, 1) := by decide +kernel
theorem dX3_nameClown_14 : decode cX3_nameClown 14 = .ok (.invokestatic 44, 3) := by decide +kernel
theorem dX3_nameClown_17 : decode cX3_nameClown 17 = .ok (.invokestatic 79, 3) := by decide +kernel
theorem dX3_nameClown_20 : decode cX3_nameClown 20 = .ok (.aload_n 0, 1) := by decide +kernel
theorem dX3_nameClown_21 : decode cX3_nameClown 21 = .ok (.getfield 9, 3) := by decide +kernel
theorem dX3_nameClown_24 : decode cX3_nameClown 24 = .ok (.bipush 7, 2) := by decide +kernel
theorem dX3_nameClown_26 : decode cX3_nameClown 26 = .ok (.aload_n 0, 1) := by decide +kernel
theorem dX3_nameClown_27 : decode cX3_nameClown 27 = .ok (.getfield 22, 3) := by decide +kernel
theorem dX3_nameClown_30 : decode cX3_nameClown 30 = .ok (.getfield 90, 3) := by decide +kernel
theorem dX3_nameClown_33 : decode cX3_nameClown 33 = .ok (.iload_n 1, 1) := by decide +kernel
theorem dX3_nameClown_34 : decode cX3_nameClown 34 = .ok (.invokestatic 44, 3) := by decide +kernel
theorem dX3_nameClown_37 : decode cX3_nameClown 37 = .ok (.invokestatic 79, 3) := by decide +kernel
theorem dX3_nameClown_40 : decode cX3_nameClown 40 = .ok (.aload_n 0, 1) := by decide +kernel
theorem dX3_nameClown_41 : decode cX3_nameClown 41 = .ok (.getfield 9, 3) := by decide +kernel
theorem dX3_nameClown_44 : decode cX3_nameClown 44 = .ok (.bipush 8, 2) := by decide +kernel
theorem dX3_nameClown_46 : decode cX3_nameClown 46 = .ok (.aload_n 0, 1) := by decide +kernel
theorem dX3_nameClown_47 : decode cX3_nameClown 47 = .ok (.getfield 22, 3) := by decide +kernel
theorem dX3_nameClown_50 : decode cX3_nameClown 50 = .ok (.bipush 24, 2) := by decide +kernel
theorem dX3_nameClown_52 : decode cX3_nameClown 52 = .ok (.iload_n 1, 1) := by decide +kernel
theorem dX3_nameClown_53 : decode cX3_nameClown 53 = .ok (.invokevirtual 50, 3) := by decide +kernel
theorem dX3_nameClown_56 : decode cX3_nameClown 56 = .ok (.invokestatic 79, 3) := by decide +kernel
theorem dX3_nameClown_59 : decode cX3_nameClown 59 = .ok (.aload_n 0, 1) := by decide +kernel
theorem dX3_nameClown_60 : decode cX3_nameClown 60 = .ok (.getfield 9, 3) := by decide +kernel
theorem dX3_nameClown_63 : decode cX3_nameClown 63 = .ok (.bipush 9, 2) := by decide +kernel
theorem dX3_nameClown_65 : decode cX3_nameClown 65 = .ok (.iload_n 2, 1) := by decide +kernel
theorem dX3_nameClown_66 : decode cX3_nameClown 66 = .ok (.invokestatic 79, 3) := by decide +kernel
theorem dX3_nameClown_69 : decode cX3_nameClown 69 = .ok (.aload_n 0, 1) := by decide +kernel
theorem dX3_nameClown_70 : decode cX3_nameClown 70 = .ok (.getfield 9, 3) := by decide +kernel
theorem dX3_nameClown_73 : decode cX3_nameClown 73 = .ok (.bipush 10, 2) := by decide +kernel
theorem dX3_nameClown_75 : decode cX3_nameClown 75 = .ok (.iload_n 1, 1) := by decide +kernel
theorem dX3_nameClown_76 : decode cX3_nameClown 76 = .ok (.invokestatic 79, 3) := by decide +kernel
theorem dX3_nameClown_79 : decode cX3_nameClown 79 = .ok (.return_, 1) := by decide +kernel
set_option maxRecDepth 20000 in
theorem ggX3_worked_X9_stopOf : GoodIn wsX3_worked wsX9_stopOf := goodIn_r _ [7, 8, 9, 10, 11, 53, 54, 55, 56] rfl (by decide +kernel)
set_option maxRecDepth 20000 in
theorem gX3_worked_X9_stopOf : GoodIn wsX3_worked (wsV RX3 93 RX9 yX9_stopOf wsX9_stopOf) := goodIn_app (goodIn_of _ (by decide +kernel)) ggX3_worked_X9_stopOf
set_option maxRecDepth 20000 in
theorem ggX3_worked_X9_startOf : GoodIn wsX3_worked wsX9_startOf := goodIn_r _ [15, 8, 9, 10, 11, 53, 54, 55, 56] rfl (by decide +kernel)
set_option maxRecDepth 20000 in
theorem gX3_worked_X9_startOf : GoodIn wsX3_worked (wsV RX3 96 RX9 yX9_startOf wsX9_startOf) := goodIn_app (goodIn_of _ (by decide +kernel)) ggX3_worked_X9_startOf
set_option maxRecDepth 20000 in
theorem ggX3_worked_X11_at : GoodIn wsX3_worked wsX11_at := goodIn_r _ [11] rfl (by decide +kernel)
set_option maxRecDepth 20000 in
theorem gX3_worked_X11_at_n44 : GoodIn wsX3_worked (wsX11_at) := ggX3_worked_X11_at
set_option maxRecDepth 20000 in
theorem ggX3_worked_X3_push : GoodIn wsX3_worked wsX3_push := goodIn_r _ [20, 21, 1, 22, 10, 23, 49, 50, 51, 52] rfl (by decide +kernel)
set_option maxRecDepth 20000 in
theorem gX3_worked_X3_push : GoodIn wsX3_worked (wsV RX3 102 RX3 yX3_push wsX3_push) := goodIn_app (goodIn_of _ (by decide +kernel)) ggX3_worked_X3_push
set_option maxRecDepth 20000 in
theorem ggX3_worked_X3_pop : GoodIn wsX3_worked wsX3_pop := goodIn_r _ [27, 1, 21, 9, 10, 11, 49, 50, 51, 52] rfl (by decide +kernel)
set_option maxRecDepth 20000 in
theorem gX3_worked_X3_pop : GoodIn wsX3_worked (wsV RX3 105 RX3 yX3_pop wsX3_pop) := goodIn_app (goodIn_of _ (by decide +kernel)) ggX3_worked_X3_pop
set_option maxRecDepth 20000 in
theorem ggX3_worked_X3_moodOf : GoodIn wsX3_worked wsX3_moodOf := goodIn_r _ [31, 32, 33, 9, 10, 11, 49, 50, 51, 52, 57, 58, 59, 60, 61, 62, 63, 64, 65, 66, 67, 68, 69, 70, 71, 72] rfl (by decide +kernel)
set_option maxRecDepth 20000 in
theorem gX3_worked_X3_moodOf : GoodIn wsX3_worked (wsV RX3 108 RX3 yX3_moodOf wsX3_moodOf) := goodIn_app (goodIn_of _ (by decide +kernel)) ggX3_worked_X3_moodOf
set_option maxRecDepth 20000 in
theorem ggX3_worked_X11_held : GoodIn wsX3_worked wsX11_held := goodIn_r _ [35] rfl (by decide +kernel)
set_option maxRecDepth 20000 in
theorem gX3_worked_X11_held_n66 : GoodIn wsX3_worked (wsX11_held) := ggX3_worked_X11_held
set_option maxRecDepth 20000 in
theorem ggX3_worked_X3_joined : GoodIn wsX3_worked wsX3_joined := goodIn_r _ [38, 39, 40, 19, 41, 42, 43, 44, 45, 46, 47, 48] rfl (by decide +kernel)
set_option maxRecDepth 20000 in
theorem gX3_worked_X3_joined : GoodIn wsX3_worked (va_wsS RX3 111 yX3_joined wsX3_joined) := goodIn_app (goodIn_of _ (by decide +kernel)) ggX3_worked_X3_joined
theorem dX3_worked_0 : decode cX3_worked 0 = .ok (.aload_n 0, 1) := by decide +kernel
theorem dX3_worked_1 : decode cX3_worked 1 = .ok (.iconst 0, 1) := by decide +kernel
theorem dX3_worked_2 : decode cX3_worked 2 = .ok (.putfield 18, 3) := by decide +kernel
theorem dX3_worked_5 : decode cX3_worked 5 = .ok (.aload_n 1, 1) := by decide +kernel
theorem dX3_worked_6 : decode cX3_worked 6 = .ok (.iload_n 2, 1) := by decide +kernel
theorem dX3_worked_7 : decode cX3_worked 7 = .ok (.invokevirtual 93, 3) := by decide +kernel
theorem dX3_worked_10 : decode cX3_worked 10 = .ok (.istore_n 3, 1) := by decide +kernel
theorem dX3_worked_11 : decode cX3_worked 11 = .ok (.aload_n 1, 1) := by decide +kernel
theorem dX3_worked_12 : decode cX3_worked 12 = .ok (.iload_n 2, 1) := by decide +kernel
theorem dX3_worked_13 : decode cX3_worked 13 = .ok (.invokevirtual 96, 3) := by decide +kernel
theorem dX3_worked_16 : decode cX3_worked 16 = .ok (.istore 4, 2) := by decide +kernel
theorem dX3_worked_18 : decode cX3_worked 18 = .ok (.iload 4, 2) := by decide +kernel
theorem dX3_worked_20 : decode cX3_worked 20 = .ok (.iload_n 3, 1) := by decide +kernel
theorem dX3_worked_21 : decode cX3_worked 21 = .ok (.if_icmp .ge 251, 3) := by decide +kernel
theorem dX3_worked_24 : decode cX3_worked 24 = .ok (.aload_n 1, 1) := by decide +kernel
theorem dX3_worked_25 : decode cX3_worked 25 = .ok (.getfield 99, 3) := by decide +kernel
theorem dX3_worked_28 : decode cX3_worked 28 = .ok (.iload 4, 2) := by decide +kernel
theorem dX3_worked_30 : decode cX3_worked 30 = .ok (.invokestatic 44, 3) := by decide +kernel
theorem dX3_worked_33 : decode cX3_worked 33 = .ok (.istore 5, 2) := by decide +kernel
theorem dX3_worked_35 : decode cX3_worked 35 = .ok (.iload 5, 2) := by decide +kernel
theorem dX3_worked_37 : decode cX3_worked 37 = .ok (.bipush 64, 2) := by decide +kernel
theorem dX3_worked_39 : decode cX3_worked 39 = .ok (.idiv, 1) := by decide +kernel
theorem dX3_worked_40 : decode cX3_worked 40 = .ok (.istore 6, 2) := by decide +kernel
theorem dX3_worked_42 : decode cX3_worked 42 = .ok (.iload 5, 2) := by decide +kernel
theorem dX3_worked_44 : decode cX3_worked 44 = .ok (.bipush 64, 2) := by decide +kernel
theorem dX3_worked_46 : decode cX3_worked 46 = .ok (.irem, 1) := by decide +kernel
theorem dX3_worked_47 : decode cX3_worked 47 = .ok (.istore 7, 2) := by decide +kernel
theorem dX3_worked_49 : decode cX3_worked 49 = .ok (.iload 7, 2) := by decide +kernel
theorem dX3_worked_51 : decode cX3_worked 51 = .ok (.lookupswitch 194 #[(20, 130), (22, 115), (23, 160), (29, 102), (32, 65), (46, 90), (47, 74)], 65) := by decide +kernel
theorem dX3_worked_116 : decode cX3_worked 116 = .ok (.aload_n 0, 1) := by decide +kernel
theorem dX3_worked_117 : decode cX3_worked 117 = .ok (.iload 6, 2) := by decide +kernel
theorem dX3_worked_119 : decode cX3_worked 119 = .ok (.invokevirtual 102, 3) := by decide +kernel
theorem dX3_worked_122 : decode cX3_worked 122 = .ok (.goto 144, 3) := by decide +kernel
theorem dX3_worked_125 : decode cX3_worked 125 = .ok (.aload_n 0, 1) := by decide +kernel
theorem dX3_worked_126 : decode cX3_worked 126 = .ok (.aload_n 0, 1) := by decide +kernel
theorem dX3_worked_127 : decode cX3_worked 127 = .ok (.getfield 9, 3) := by decide +kernel
theorem dX3_worked_130 : decode cX3_worked 130 = .ok (.iload 6, 2) := by decide +kernel
theorem dX3_worked_132 : decode cX3_worked 132 = .ok (.invokestatic 44, 3) := by decide +kernel
theorem dX3_worked_135 : decode cX3_worked 135 = .ok (.invokevirtual 102, 3) := by decide +kernel
theorem dX3_worked_138 : decode cX3_worked 138 = .ok (.goto 128, 3) := by decide +kernel
theorem dX3_worked_141 : decode cX3_worked 141 = .ok (.aload_n 0, 1) := by decide +kernel
theorem dX3_worked_142 : decode cX3_worked 142 = .ok (.aload_n 0, 1) := by decide +kernel
theorem dX3_worked_143 : decode cX3_worked 143 = .ok (.invokevirtual 105, 3) := by decide +kernel
theorem dX3_worked_146 : decode cX3_worked 146 = .ok (.ineg, 1) := by decide +kernel
theorem dX3_worked_147 : decode cX3_worked 147 = .ok (.invokevirtual 102, 3) := by decide +kernel
theorem dX3_worked_150 : decode cX3_worked 150 = .ok (.goto 116, 3) := by decide +kernel
theorem dX3_worked_153 : decode cX3_worked 153 = .ok (.aload_n 0, 1) := by decide +kernel
theorem dX3_worked_154 : decode cX3_worked 154 = .ok (.iconst 1, 1) := by decide +kernel
theorem dX3_worked_155 : decode cX3_worked 155 = .ok (.aload_n 0, 1) := by decide +kernel
theorem dX3_worked_156 : decode cX3_worked 156 = .ok (.invokevirtual 105, 3) := by decide +kernel
theorem dX3_worked_159 : decode cX3_worked 159 = .ok (.isub, 1) := by decide +kernel
theorem dX3_worked_160 : decode cX3_worked 160 = .ok (.invokevirtual 102, 3) := by decide +kernel
theorem dX3_worked_163 : decode cX3_worked 163 = .ok (.goto 103, 3) := by decide +kernel
theorem dX3_worked_166 : decode cX3_worked 166 = .ok (.aload_n 0, 1) := by decide +kernel
theorem dX3_worked_167 : decode cX3_worked 167 = .ok (.aload_n 0, 1) := by decide +kernel
theorem dX3_worked_168 : decode cX3_worked 168 = .ok (.aload_n 0, 1) := by decide +kernel
theorem dX3_worked_169 : decode cX3_worked 169 = .ok (.invokevirtual 105, 3) := by decide +kernel
theorem dX3_worked_172 : decode cX3_worked 172 = .ok (.invokevirtual 108, 3) := by decide +kernel
theorem dX3_worked_175 : decode cX3_worked 175 = .ok (.invokevirtual 102, 3) := by decide +kernel
theorem dX3_worked_178 : decode cX3_worked 178 = .ok (.goto 88, 3) := by decide +kernel
theorem dX3_worked_181 : decode cX3_worked 181 = .ok (.aload_n 0, 1) := by decide +kernel
theorem dX3_worked_182 : decode cX3_worked 182 = .ok (.invokevirtual 105, 3) := by decide +kernel
theorem dX3_worked_185 : decode cX3_worked 185 = .ok (.istore 8, 2) := by decide +kernel
theorem dX3_worked_187 : decode cX3_worked 187 = .ok (.aload_n 0, 1) := by decide +kernel
theorem dX3_worked_188 : decode cX3_worked 188 = .ok (.invokevirtual 105, 3) := by decide +kernel
theorem dX3_worked_191 : decode cX3_worked 191 = .ok (.istore 9, 2) := by decide +kernel
theorem dX3_worked_193 : decode cX3_worked 193 = .ok (.aload_n 0, 1) := by decide +kernel
theorem dX3_worked_194 : decode cX3_worked 194 = .ok (.aload_n 0, 1) := by decide +kernel
theorem dX3_worked_195 : decode cX3_worked 195 = .ok (.invokevirtual 105, 3) := by decide +kernel
theorem dX3_worked_198 : decode cX3_worked 198 = .ok (.iload 9, 2) := by decide +kernel
theorem dX3_worked_200 : decode cX3_worked 200 = .ok (.iload 8, 2) := by decide +kernel
theorem dX3_worked_202 : decode cX3_worked 202 = .ok (.invokestatic 66, 3) := by decide +kernel
theorem dX3_worked_205 : decode cX3_worked 205 = .ok (.invokevirtual 102, 3) := by decide +kernel
theorem dX3_worked_208 : decode cX3_worked 208 = .ok (.goto 58, 3) := by decide +kernel
theorem dX3_worked_211 : decode cX3_worked 211 = .ok (.aload_n 0, 1) := by decide +kernel
theorem dX3_worked_212 : decode cX3_worked 212 = .ok (.invokevirtual 105, 3) := by decide +kernel
theorem dX3_worked_215 : decode cX3_worked 215 = .ok (.istore 10, 2) := by decide +kernel
theorem dX3_worked_217 : decode cX3_worked 217 = .ok (.aload_n 0, 1) := by decide +kernel
theorem dX3_worked_218 : decode cX3_worked 218 = .ok (.invokevirtual 105, 3) := by decide +kernel
theorem dX3_worked_221 : decode cX3_worked 221 = .ok (.istore 11, 2) := by decide +kernel
theorem dX3_worked_223 : decode cX3_worked 223 = .ok (.aload_n 0, 1) := by decide +kernel
theorem dX3_worked_224 : decode cX3_worked 224 = .ok (.aload_n 0, 1) := by decide +kernel
theorem dX3_worked_225 : decode cX3_worked 225 = .ok (.invokevirtual 105, 3) := by decide +kernel
theorem dX3_worked_228 : decode cX3_worked 228 = .ok (.iconst 1, 1) := by decide +kernel
theorem dX3_worked_229 : decode cX3_worked 229 = .ok (.if_icmp .ne 8, 3) := by decide +kernel
theorem dX3_worked_232 : decode cX3_worked 232 = .ok (.iload 11, 2) := by decide +kernel
theorem dX3_worked_234 : decode cX3_worked 234 = .ok (.goto 5, 3) := by decide +kernel
theorem dX3_worked_237 : decode cX3_worked 237 = .ok (.iload 10, 2) := by decide +kernel
theorem dX3_worked_239 : decode cX3_worked 239 = .ok (.invokevirtual 102, 3) := by decide +kernel
theorem dX3_worked_242 : decode cX3_worked 242 = .ok (.goto 24, 3) := by decide +kernel
theorem dX3_worked_245 : decode cX3_worked 245 = .ok (.aload_n 0, 1) := by decide +kernel
theorem dX3_worked_246 : decode cX3_worked 246 = .ok (.invokevirtual 105, 3) := by decide +kernel
theorem dX3_worked_249 : decode cX3_worked 249 = .ok (.istore 12, 2) := by decide +kernel
theorem dX3_worked_251 : decode cX3_worked 251 = .ok (.aload_n 0, 1) := by decide +kernel
theorem dX3_worked_252 : decode cX3_worked 252 = .ok (.iload 7, 2) := by decide +kernel
theorem dX3_worked_254 : decode cX3_worked 254 = .ok (.aload_n 0, 1) := by decide +kernel
theorem dX3_worked_255 : decode cX3_worked 255 = .ok (.invokevirtual 105, 3) := by decide +kernel
theorem dX3_worked_258 : decode cX3_worked 258 = .ok (.iload 12, 2) := by decide +kernel
theorem dX3_worked_260 : decode cX3_worked 260 = .ok (.invokestatic 111, 3) := by decide +kernel
theorem dX3_worked_263 : decode cX3_worked 263 = .ok (.invokevirtual 102, 3) := by decide +kernel
theorem dX3_worked_266 : decode cX3_worked 266 = .ok (.iinc 4 1, 3) := by decide +kernel
theorem dX3_worked_269 : decode cX3_worked 269 = .ok (.goto (-251), 3) := by decide +kernel
theorem dX3_worked_272 : decode cX3_worked 272 = .ok (.aload_n 0, 1) := by decide +kernel
theorem dX3_worked_273 : decode cX3_worked 273 = .ok (.invokevirtual 105, 3) := by decide +kernel
theorem dX3_worked_276 : decode cX3_worked 276 = .ok (.ireturn, 1) := by decide +kernel
set_option maxRecDepth 20000 in
theorem ggX3_push_X11_put : GoodIn wsX3_push wsX11_put := goodIn_r _ [5] rfl (by decide +kernel)
set_option maxRecDepth 20000 in
theorem gX3_push_X11_put_n79 : GoodIn wsX3_push (wsX11_put) := ggX3_push_X11_put
theorem dX3_push_0 : decode cX3_push 0 = .ok (.aload_n 0, 1) := by decide +kernel
theorem dX3_push_1 : decode cX3_push 1 = .ok (.getfield 15, 3) := by decide +kernel
theorem dX3_push_4 : decode cX3_push 4 = .ok (.aload_n 0, 1) := by decide +kernel
theorem dX3_push_5 : decode cX3_push 5 = .ok (.getfield 18, 3) := by decide +kernel
theorem dX3_push_8 : decode cX3_push 8 = .ok (.iload_n 1, 1) := by decide +kernel
theorem dX3_push_9 : decode cX3_push 9 = .ok (.invokestatic 79, 3) := by decide +kernel
theorem dX3_push_12 : decode cX3_push 12 = .ok (.aload_n 0, 1) := by decide +kernel
theorem dX3_push_13 : decode cX3_push 13 = .ok (.dup, 1) := by decide +kernel
theorem dX3_push_14 : decode cX3_push 14 = .ok (.getfield 18, 3) := by decide +kernel
theorem dX3_push_17 : decode cX3_push 17 = .ok (.iconst 1, 1) := by decide +kernel
theorem dX3_push_18 : decode cX3_push 18 = .ok (.iadd, 1) := by decide +kernel
theorem dX3_push_19 : decode cX3_push 19 = .ok (.putfield 18, 3) := by decide +kernel
theorem dX3_push_22 : decode cX3_push 22 = .ok (.return_, 1) := by decide +kernel
set_option maxRecDepth 20000 in
theorem ggX3_pop_X11_at : GoodIn wsX3_pop wsX11_at := goodIn_r _ [5] rfl (by decide +kernel)
set_option maxRecDepth 20000 in
theorem gX3_pop_X11_at_n44 : GoodIn wsX3_pop (wsX11_at) := ggX3_pop_X11_at
theorem dX3_pop_0 : decode cX3_pop 0 = .ok (.aload_n 0, 1) := by decide +kernel
theorem dX3_pop_1 : decode cX3_pop 1 = .ok (.dup, 1) := by decide +kernel
theorem dX3_pop_2 : decode cX3_pop 2 = .ok (.getfield 18, 3) := by decide +kernel
theorem dX3_pop_5 : decode cX3_pop 5 = .ok (.iconst 1, 1) := by decide +kernel
theorem dX3_pop_6 : decode cX3_pop 6 = .ok (.isub, 1) := by decide +kernel
theorem dX3_pop_7 : decode cX3_pop 7 = .ok (.putfield 18, 3) := by decide +kernel
theorem dX3_pop_10 : decode cX3_pop 10 = .ok (.aload_n 0, 1) := by decide +kernel
theorem dX3_pop_11 : decode cX3_pop 11 = .ok (.getfield 15, 3) := by decide +kernel
theorem dX3_pop_14 : decode cX3_pop 14 = .ok (.aload_n 0, 1) := by decide +kernel
theorem dX3_pop_15 : decode cX3_pop 15 = .ok (.getfield 18, 3) := by decide +kernel
theorem dX3_pop_18 : decode cX3_pop 18 = .ok (.invokestatic 44, 3) := by decide +kernel
theorem dX3_pop_21 : decode cX3_pop 21 = .ok (.ireturn, 1) := by decide +kernel
set_option maxRecDepth 20000 in
theorem ggX3_moodOf_X11_at : GoodIn wsX3_moodOf wsX11_at := goodIn_r _ [5] rfl (by decide +kernel)
set_option maxRecDepth 20000 in
theorem gX3_moodOf_X11_at_n44 : GoodIn wsX3_moodOf (wsX11_at) := ggX3_moodOf_X11_at
theorem dX3_moodOf_0 : decode cX3_moodOf 0 = .ok (.iload_n 1, 1) := by decide +kernel
theorem dX3_moodOf_1 : decode cX3_moodOf 1 = .ok (.ifCond .lt 23, 3) := by decide +kernel
theorem dX3_moodOf_4 : decode cX3_moodOf 4 = .ok (.iload_n 1, 1) := by decide +kernel
theorem dX3_moodOf_5 : decode cX3_moodOf 5 = .ok (.aload_n 0, 1) := by decide +kernel
theorem dX3_moodOf_6 : decode cX3_moodOf 6 = .ok (.getfield 22, 3) := by decide +kernel
theorem dX3_moodOf_9 : decode cX3_moodOf 9 = .ok (.getfield 114, 3) := by decide +kernel
theorem dX3_moodOf_12 : decode cX3_moodOf 12 = .ok (.bipush 72, 2) := by decide +kernel
theorem dX3_moodOf_14 : decode cX3_moodOf 14 = .ok (.invokestatic 44, 3) := by decide +kernel
theorem dX3_moodOf_17 : decode cX3_moodOf 17 = .ok (.if_icmp .ge 7, 3) := by decide +kernel
theorem dX3_moodOf_20 : decode cX3_moodOf 20 = .ok (.iconst 1, 1) := by decide +kernel
theorem dX3_moodOf_21 : decode cX3_moodOf 21 = .ok (.goto 4, 3) := by decide +kernel
theorem dX3_moodOf_24 : decode cX3_moodOf 24 = .ok (.iconst 0, 1) := by decide +kernel
theorem dX3_moodOf_25 : decode cX3_moodOf 25 = .ok (.istore_n 2, 1) := by decide +kernel
theorem dX3_moodOf_26 : decode cX3_moodOf 26 = .ok (.iload_n 2, 1) := by decide +kernel
theorem dX3_moodOf_27 : decode cX3_moodOf 27 = .ok (.ifCond .eq 20, 3) := by decide +kernel
theorem dX3_moodOf_30 : decode cX3_moodOf 30 = .ok (.aload_n 0, 1) := by decide +kernel
theorem dX3_moodOf_31 : decode cX3_moodOf 31 = .ok (.getfield 22, 3) := by decide +kernel
theorem dX3_moodOf_34 : decode cX3_moodOf 34 = .ok (.getfield 114, 3) := by decide +kernel
theorem dX3_moodOf_37 : decode cX3_moodOf 37 = .ok (.bipush 6, 2) := by decide +kernel
theorem dX3_moodOf_39 : decode cX3_moodOf 39 = .ok (.iload_n 1, 1) := by decide +kernel
theorem dX3_moodOf_40 : decode cX3_moodOf 40 = .ok (.iadd, 1) := by decide +kernel
theorem dX3_moodOf_41 : decode cX3_moodOf 41 = .ok (.invokestatic 44, 3) := by decide +kernel
theorem dX3_moodOf_44 : decode cX3_moodOf 44 = .ok (.goto 4, 3) := by decide +kernel
theorem dX3_moodOf_47 : decode cX3_moodOf 47 = .ok (.iconst 0, 1) := by decide +kernel
theorem dX3_moodOf_48 : decode cX3_moodOf 48 = .ok (.ireturn, 1) := by decide +kernel
set_option maxRecDepth 20000 in
theorem ggX3_joined_X3_cut : GoodIn wsX3_joined wsX3_cut := goodIn_r _ [4, 5, 6, 7, 8] rfl (by decide +kernel)
set_option maxRecDepth 20000 in
theorem gX3_joined_X3_cut : GoodIn wsX3_joined (va_wsS RX3 117 yX3_cut wsX3_cut) := goodIn_app (goodIn_of _ (by decide +kernel)) ggX3_joined_X3_cut
set_option maxRecDepth 20000 in
theorem ggX3_joined_X3_compares : GoodIn wsX3_joined wsX3_compares := goodIn_r _ [11] rfl (by decide +kernel)
set_option maxRecDepth 20000 in
theorem gX3_joined_X3_compares : GoodIn wsX3_joined (va_wsS RX3 121 yX3_compares wsX3_compares) := goodIn_app (goodIn_of _ (by decide +kernel)) ggX3_joined_X3_compares
theorem dX3_joined_0 : decode cX3_joined 0 = .ok (.iload_n 0, 1) := by decide +kernel
theorem dX3_joined_1 : decode cX3_joined 1 = .ok (.tableswitch 124 27 42 #[120, 116, 124, 124, 124, 124, 124, 124, 124, 124, 124, 124, 79, 87, 95, 104], 79) := by decide +kernel
theorem dX3_joined_80 : decode cX3_joined 80 = .ok (.iload_n 1, 1) := by decide +kernel
theorem dX3_joined_81 : decode cX3_joined 81 = .ok (.iload_n 2, 1) := by decide +kernel
theorem dX3_joined_82 : decode cX3_joined 82 = .ok (.iadd, 1) := by decide +kernel
theorem dX3_joined_83 : decode cX3_joined 83 = .ok (.i2l, 1) := by decide +kernel
theorem dX3_joined_84 : decode cX3_joined 84 = .ok (.invokestatic 117, 3) := by decide +kernel
theorem dX3_joined_87 : decode cX3_joined 87 = .ok (.ireturn, 1) := by decide +kernel
theorem dX3_joined_88 : decode cX3_joined 88 = .ok (.iload_n 1, 1) := by decide +kernel
theorem dX3_joined_89 : decode cX3_joined 89 = .ok (.iload_n 2, 1) := by decide +kernel
theorem dX3_joined_90 : decode cX3_joined 90 = .ok (.isub, 1) := by decide +kernel
theorem dX3_joined_91 : decode cX3_joined 91 = .ok (.i2l, 1) := by decide +kernel
theorem dX3_joined_92 : decode cX3_joined 92 = .ok (.invokestatic 117, 3) := by decide +kernel
theorem dX3_joined_95 : decode cX3_joined 95 = .ok (.ireturn, 1) := by decide +kernel
theorem dX3_joined_96 : decode cX3_joined 96 = .ok (.iload_n 1, 1) := by decide +kernel
theorem dX3_joined_97 : decode cX3_joined 97 = .ok (.i2l, 1) := by decide +kernel
theorem dX3_joined_98 : decode cX3_joined 98 = .ok (.iload_n 2, 1) := by decide +kernel
theorem dX3_joined_99 : decode cX3_joined 99 = .ok (.i2l, 1) := by decide +kernel
theorem dX3_joined_100 : decode cX3_joined 100 = .ok (.lmul, 1) := by decide +kernel
theorem dX3_joined_101 : decode cX3_joined 101 = .ok (.invokestatic 117, 3) := by decide +kernel
theorem dX3_joined_104 : decode cX3_joined 104 = .ok (.ireturn, 1) := by decide +kernel
theorem dX3_joined_105 : decode cX3_joined 105 = .ok (.iload_n 2, 1) := by decide +kernel
theorem dX3_joined_106 : decode cX3_joined 106 = .ok (.ifCond .ne 7, 3) := by decide +kernel
theorem dX3_joined_109 : decode cX3_joined 109 = .ok (.iconst 0, 1) := by decide +kernel
theorem dX3_joined_110 : decode cX3_joined 110 = .ok (.goto 6, 3) := by decide +kernel
theorem dX3_joined_113 : decode cX3_joined 113 = .ok (.iload_n 1, 1) := by decide +kernel
theorem dX3_joined_114 : decode cX3_joined 114 = .ok (.iload_n 2, 1) := by decide +kernel
theorem dX3_joined_115 : decode cX3_joined 115 = .ok (.idiv, 1) := by decide +kernel
theorem dX3_joined_116 : decode cX3_joined 116 = .ok (.ireturn, 1) := by decide +kernel
theorem dX3_joined_117 : decode cX3_joined 117 = .ok (.iload_n 1, 1) := by decide +kernel
theorem dX3_joined_118 : decode cX3_joined 118 = .ok (.iload_n 2, 1) := by decide +kernel
theorem dX3_joined_119 : decode cX3_joined 119 = .ok (.iand, 1) := by decide +kernel
theorem dX3_joined_120 : decode cX3_joined 120 = .ok (.ireturn, 1) := by decide +kernel
theorem dX3_joined_121 : decode cX3_joined 121 = .ok (.iload_n 1, 1) := by decide +kernel
theorem dX3_joined_122 : decode cX3_joined 122 = .ok (.iload_n 2, 1) := by decide +kernel
theorem dX3_joined_123 : decode cX3_joined 123 = .ok (.ior, 1) := by decide +kernel
theorem dX3_joined_124 : decode cX3_joined 124 = .ok (.ireturn, 1) := by decide +kernel
theorem dX3_joined_125 : decode cX3_joined 125 = .ok (.iload_n 0, 1) := by decide +kernel
theorem dX3_joined_126 : decode cX3_joined 126 = .ok (.iload_n 1, 1) := by decide +kernel
theorem dX3_joined_127 : decode cX3_joined 127 = .ok (.iload_n 2, 1) := by decide +kernel
theorem dX3_joined_128 : decode cX3_joined 128 = .ok (.invokestatic 121, 3) := by decide +kernel
theorem dX3_joined_131 : decode cX3_joined 131 = .ok (.ifCond .eq 7, 3) := by decide +kernel
theorem dX3_joined_134 : decode cX3_joined 134 = .ok (.iconst 1, 1) := by decide +kernel
theorem dX3_joined_135 : decode cX3_joined 135 = .ok (.goto 4, 3) := by decide +kernel
theorem dX3_joined_138 : decode cX3_joined 138 = .ok (.iconst 0, 1) := by decide +kernel
theorem dX3_joined_139 : decode cX3_joined 139 = .ok (.ireturn, 1) := by decide +kernel
theorem dX3_cut_0 : decode cX3_cut 0 = .ok (.lload_n 0, 1) := by decide +kernel
theorem dX3_cut_1 : decode cX3_cut 1 = .ok (.ldc2_w 125, 3) := by decide +kernel
theorem dX3_cut_4 : decode cX3_cut 4 = .ok (.lcmp, 1) := by decide +kernel
theorem dX3_cut_5 : decode cX3_cut 5 = .ok (.ifCond .le 6, 3) := by decide +kernel
theorem dX3_cut_8 : decode cX3_cut 8 = .ok (.ldc 127, 2) := by decide +kernel
theorem dX3_cut_10 : decode cX3_cut 10 = .ok (.ireturn, 1) := by decide +kernel
theorem dX3_cut_11 : decode cX3_cut 11 = .ok (.lload_n 0, 1) := by decide +kernel
theorem dX3_cut_12 : decode cX3_cut 12 = .ok (.ldc2_w 128, 3) := by decide +kernel
theorem dX3_cut_15 : decode cX3_cut 15 = .ok (.lcmp, 1) := by decide +kernel
theorem dX3_cut_16 : decode cX3_cut 16 = .ok (.ifCond .ge 8, 3) := by decide +kernel
theorem dX3_cut_19 : decode cX3_cut 19 = .ok (.ldc 130, 2) := by decide +kernel
theorem dX3_cut_21 : decode cX3_cut 21 = .ok (.goto 5, 3) := by decide +kernel
theorem dX3_cut_24 : decode cX3_cut 24 = .ok (.lload_n 0, 1) := by decide +kernel
theorem dX3_cut_25 : decode cX3_cut 25 = .ok (.l2i, 1) := by decide +kernel
theorem dX3_cut_26 : decode cX3_cut 26 = .ok (.ireturn, 1) := by decide +kernel
theorem dX3_compares_0 : decode cX3_compares 0 = .ok (.iload_n 0, 1) := by decide +kernel
theorem dX3_compares_1 : decode cX3_compares 1 = .ok (.tableswitch 90 33 37 #[35, 46, 57, 68, 79], 35) := by decide +kernel
theorem dX3_compares_36 : decode cX3_compares 36 = .ok (.iload_n 1, 1) := by decide +kernel
theorem dX3_compares_37 : decode cX3_compares 37 = .ok (.iload_n 2, 1) := by decide +kernel
theorem dX3_compares_38 : decode cX3_compares 38 = .ok (.if_icmp .gt 7, 3) := by decide +kernel
theorem dX3_compares_41 : decode cX3_compares 41 = .ok (.iconst 1, 1) := by decide +kernel
theorem dX3_compares_42 : decode cX3_compares 42 = .ok (.goto 4, 3) := by decide +kernel
theorem dX3_compares_45 : decode cX3_compares 45 = .ok (.iconst 0, 1) := by decide +kernel
theorem dX3_compares_46 : decode cX3_compares 46 = .ok (.ireturn, 1) := by decide +kernel
theorem dX3_compares_47 : decode cX3_compares 47 = .ok (.iload_n 1, 1) := by decide +kernel
theorem dX3_compares_48 : decode cX3_compares 48 = .ok (.iload_n 2, 1) := by decide +kernel
theorem dX3_compares_49 : decode cX3_compares 49 = .ok (.if_icmp .lt 7, 3) := by decide +kernel
theorem dX3_compares_52 : decode cX3_compares 52 = .ok (.iconst 1, 1) := by decide +kernel
theorem dX3_compares_53 : decode cX3_compares 53 = .ok (.goto 4, 3) := by decide +kernel
theorem dX3_compares_56 : decode cX3_compares 56 = .ok (.iconst 0, 1) := by decide +kernel
theorem dX3_compares_57 : decode cX3_compares 57 = .ok (.ireturn, 1) := by decide +kernel
theorem dX3_compares_58 : decode cX3_compares 58 = .ok (.iload_n 1, 1) := by decide +kernel
theorem dX3_compares_59 : decode cX3_compares 59 = .ok (.iload_n 2, 1) := by decide +kernel
theorem dX3_compares_60 : decode cX3_compares 60 = .ok (.if_icmp .ge 7, 3) := by decide +kernel
theorem dX3_compares_63 : decode cX3_compares 63 = .ok (.iconst 1, 1) := by decide +kernel
theorem dX3_compares_64 : decode cX3_compares 64 = .ok (.goto 4, 3) := by decide +kernel
theorem dX3_compares_67 : decode cX3_compares 67 = .ok (.iconst 0, 1) := by decide +kernel
theorem dX3_compares_68 : decode cX3_compares 68 = .ok (.ireturn, 1) := by decide +kernel
theorem dX3_compares_69 : decode cX3_compares 69 = .ok (.iload_n 1, 1) := by decide +kernel
theorem dX3_compares_70 : decode cX3_compares 70 = .ok (.iload_n 2, 1) := by decide +kernel
theorem dX3_compares_71 : decode cX3_compares 71 = .ok (.if_icmp .le 7, 3) := by decide +kernel
theorem dX3_compares_74 : decode cX3_compares 74 = .ok (.iconst 1, 1) := by decide +kernel
theorem dX3_compares_75 : decode cX3_compares 75 = .ok (.goto 4, 3) := by decide +kernel
theorem dX3_compares_78 : decode cX3_compares 78 = .ok (.iconst 0, 1) := by decide +kernel
theorem dX3_compares_79 : decode cX3_compares 79 = .ok (.ireturn, 1) := by decide +kernel
theorem dX3_compares_80 : decode cX3_compares 80 = .ok (.iload_n 1, 1) := by decide +kernel
theorem dX3_compares_81 : decode cX3_compares 81 = .ok (.iload_n 2, 1) := by decide +kernel
theorem dX3_compares_82 : decode cX3_compares 82 = .ok (.if_icmp .ne 7, 3) := by decide +kernel
theorem dX3_compares_85 : decode cX3_compares 85 = .ok (.iconst 1, 1) := by decide +kernel
theorem dX3_compares_86 : decode cX3_compares 86 = .ok (.goto 4, 3) := by decide +kernel
theorem dX3_compares_89 : decode cX3_compares 89 = .ok (.iconst 0, 1) := by decide +kernel
theorem dX3_compares_90 : decode cX3_compares 90 = .ok (.ireturn, 1) := by decide +kernel
theorem dX3_compares_91 : decode cX3_compares 91 = .ok (.iload_n 1, 1) := by decide +kernel
theorem dX3_compares_92 : decode cX3_compares 92 = .ok (.iload_n 2, 1) := by decide +kernel
theorem dX3_compares_93 : decode cX3_compares 93 = .ok (.if_icmp .eq 7, 3) := by decide +kernel
theorem dX3_compares_96 : decode cX3_compares 96 = .ok (.iconst 1, 1) := by decide +kernel
theorem dX3_compares_97 : decode cX3_compares 97 = .ok (.goto 4, 3) := by decide +kernel
theorem dX3_compares_100 : decode cX3_compares 100 = .ok (.iconst 0, 1) := by decide +kernel
theorem dX3_compares_101 : decode cX3_compares 101 = .ok (.ireturn, 1) := by decide +kernel
