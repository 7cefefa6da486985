theorem dX11_behind_21 : decode cX11_behind 21 = .ok (.aload_n 0, 1) := by decide +kernel
theorem dX11_behind_22 : decode cX11_behind 22 = .ok (.getfield 10, 3) := by decide +kernel
theorem dX11_behind_25 : decode cX11_behind 25 = .ok (.getfield 327, 3) := by decide +kernel
theorem dX11_behind_28 : decode cX11_behind 28 = .ok (.iload_n 1, 1) := by decide +kernel
theorem dX11_behind_29 : decode cX11_behind 29 = .ok (.invokestatic 203, 3) := by decide +kernel
theorem dX11_behind_32 : decode cX11_behind 32 = .ok (.istore_n 3, 1) := by decide +kernel
theorem dX11_behind_33 : decode cX11_behind 33 = .ok (.aload_n 0, 1) := by decide +kernel
theorem dX11_behind_34 : decode cX11_behind 34 = .ok (.getfield 10, 3) := by decide +kernel
theorem dX11_behind_37 : decode cX11_behind 37 = .ok (.getfield 327, 3) := by decide +kernel
theorem dX11_behind_40 : decode cX11_behind 40 = .ok (.iload_n 1, 1) := by decide +kernel
theorem dX11_behind_41 : decode cX11_behind 41 = .ok (.iload_n 3, 1) := by decide +kernel
theorem dX11_behind_42 : decode cX11_behind 42 = .ok (.iconst 1, 1) := by decide +kernel
theorem dX11_behind_43 : decode cX11_behind 43 = .ok (.iload_n 2, 1) := by decide +kernel
theorem dX11_behind_44 : decode cX11_behind 44 = .ok (.ishl, 1) := by decide +kernel
theorem dX11_behind_45 : decode cX11_behind 45 = .ok (.ior, 1) := by decide +kernel
theorem dX11_behind_46 : decode cX11_behind 46 = .ok (.invokestatic 94, 3) := by decide +kernel
theorem dX11_behind_49 : decode cX11_behind 49 = .ok (.iload_n 3, 1) := by decide +kernel
theorem dX11_behind_50 : decode cX11_behind 50 = .ok (.iload_n 2, 1) := by decide +kernel
theorem dX11_behind_51 : decode cX11_behind 51 = .ok (.ishr, 1) := by decide +kernel
theorem dX11_behind_52 : decode cX11_behind 52 = .ok (.iconst 1, 1) := by decide +kernel
theorem dX11_behind_53 : decode cX11_behind 53 = .ok (.iand, 1) := by decide +kernel
theorem dX11_behind_54 : decode cX11_behind 54 = .ok (.ifCond .ne 7, 3) := by decide +kernel
theorem dX11_behind_57 : decode cX11_behind 57 = .ok (.iconst 1, 1) := by decide +kernel
theorem dX11_behind_58 : decode cX11_behind 58 = .ok (.goto 4, 3) := by decide +kernel
theorem dX11_behind_61 : decode cX11_behind 61 = .ok (.iconst 0, 1) := by decide +kernel
theorem dX11_behind_62 : decode cX11_behind 62 = .ok (.ireturn, 1) := by decide +kernel
set_option maxRecDepth 20000 in
theorem ggX11_lessons_X11_ordersFrom : GoodIn wsX11_lessons wsX11_ordersFrom := goodIn_r _ [6, 7, 8, 5, 9, 10, 11, 12, 3, 4] rfl (by decide +kernel)
set_option maxRecDepth 20000 in
theorem gX11_lessons_X11_ordersFrom : GoodIn wsX11_lessons (va_wsS RX11 330 yX11_ordersFrom wsX11_ordersFrom) := goodIn_app (goodIn_of _ (by decide +kernel)) ggX11_lessons_X11_ordersFrom
set_option maxRecDepth 20000 in
theorem ggX11_lessons_X11_within : GoodIn wsX11_lessons wsX11_within := goodIn_r _ [15] rfl (by decide +kernel)
set_option maxRecDepth 20000 in
theorem gX11_lessons_X11_within : GoodIn wsX11_lessons (va_wsS RX11 72 yX11_within wsX11_within) := goodIn_app (goodIn_of _ (by decide +kernel)) ggX11_lessons_X11_within
set_option maxRecDepth 20000 in
theorem ggX11_lessons_X11_lowestLesson : GoodIn wsX11_lessons wsX11_lowestLesson := goodIn_r _ [19, 1, 2, 7, 8, 5, 9, 10, 11, 12, 20, 21, 22, 23, 24, 25, 26, 27, 28, 29, 30, 31, 32, 33, 34, 35, 36, 37, 38, 39, 40, 41, 42, 43, 44] rfl (by decide +kernel)
set_option maxRecDepth 20000 in
theorem gX11_lessons_X11_lowestLesson : GoodIn wsX11_lessons (wsV RX11 333 RX11 yX11_lowestLesson wsX11_lowestLesson) := goodIn_app (goodIn_of _ (by decide +kernel)) ggX11_lessons_X11_lowestLesson
theorem dX11_lessons_0 : decode cX11_lessons 0 = .ok (.aload_n 0, 1) := by decide +kernel
theorem dX11_lessons_1 : decode cX11_lessons 1 = .ok (.getfield 10, 3) := by decide +kernel
theorem dX11_lessons_4 : decode cX11_lessons 4 = .ok (.getfield 327, 3) := by decide +kernel
theorem dX11_lessons_7 : decode cX11_lessons 7 = .ok (.iconst 0, 1) := by decide +kernel
theorem dX11_lessons_8 : decode cX11_lessons 8 = .ok (.invokestatic 330, 3) := by decide +kernel
theorem dX11_lessons_11 : decode cX11_lessons 11 = .ok (.istore_n 2, 1) := by decide +kernel
theorem dX11_lessons_12 : decode cX11_lessons 12 = .ok (.iload_n 1, 1) := by decide +kernel
theorem dX11_lessons_13 : decode cX11_lessons 13 = .ok (.iconst (-1), 1) := by decide +kernel
theorem dX11_lessons_14 : decode cX11_lessons 14 = .ok (.if_icmp .ne 5, 3) := by decide +kernel
theorem dX11_lessons_17 : decode cX11_lessons 17 = .ok (.iload_n 2, 1) := by decide +kernel
theorem dX11_lessons_18 : decode cX11_lessons 18 = .ok (.ireturn, 1) := by decide +kernel
theorem dX11_lessons_19 : decode cX11_lessons 19 = .ok (.iload_n 2, 1) := by decide +kernel
theorem dX11_lessons_20 : decode cX11_lessons 20 = .ok (.ifCond .le 20, 3) := by decide +kernel
theorem dX11_lessons_23 : decode cX11_lessons 23 = .ok (.iload_n 1, 1) := by decide +kernel
theorem dX11_lessons_24 : decode cX11_lessons 24 = .ok (.iconst 0, 1) := by decide +kernel
theorem dX11_lessons_25 : decode cX11_lessons 25 = .ok (.iconst 4, 1) := by decide +kernel
theorem dX11_lessons_26 : decode cX11_lessons 26 = .ok (.invokestatic 72, 3) := by decide +kernel
theorem dX11_lessons_29 : decode cX11_lessons 29 = .ok (.ifCond .eq 11, 3) := by decide +kernel
theorem dX11_lessons_32 : decode cX11_lessons 32 = .ok (.aload_n 0, 1) := by decide +kernel
theorem dX11_lessons_33 : decode cX11_lessons 33 = .ok (.iload_n 1, 1) := by decide +kernel
theorem dX11_lessons_34 : decode cX11_lessons 34 = .ok (.invokevirtual 333, 3) := by decide +kernel
theorem dX11_lessons_37 : decode cX11_lessons 37 = .ok (.goto 5, 3) := by decide +kernel
theorem dX11_lessons_40 : decode cX11_lessons 40 = .ok (.bipush (-2), 2) := by decide +kernel
theorem dX11_lessons_42 : decode cX11_lessons 42 = .ok (.ireturn, 1) := by decide +kernel
set_option maxRecDepth 20000 in
theorem ggX11_grown_X0_hasHouse : GoodIn wsX11_grown wsX0_hasHouse := goodIn_r _ [8, 9, 10, 11, 12, 28, 29, 30, 31, 32, 33, 34, 35, 36, 37, 38, 39, 40, 41, 42, 43] rfl (by decide +kernel)
set_option maxRecDepth 20000 in
theorem gX11_grown_X0_hasHouse : GoodIn wsX11_grown (wsV RX11 197 RX0 yX0_hasHouse wsX0_hasHouse) := goodIn_app (goodIn_of _ (by decide +kernel)) ggX11_grown_X0_hasHouse
set_option maxRecDepth 20000 in
theorem ggX11_grown_X11_within : GoodIn wsX11_grown wsX11_within := goodIn_r _ [15] rfl (by decide +kernel)
set_option maxRecDepth 20000 in
theorem gX11_grown_X11_within : GoodIn wsX11_grown (va_wsS RX11 72 yX11_within wsX11_within) := goodIn_app (goodIn_of _ (by decide +kernel)) ggX11_grown_X11_within
set_option maxRecDepth 20000 in
theorem ggX11_grown_X11_put : GoodIn wsX11_grown wsX11_put := goodIn_r _ [18] rfl (by decide +kernel)
set_option maxRecDepth 20000 in
theorem gX11_grown_X11_put : GoodIn wsX11_grown (va_wsS RX11 94 yX11_put wsX11_put) := goodIn_app (goodIn_of _ (by decide +kernel)) ggX11_grown_X11_put
theorem dX11_grown_0 : decode cX11_grown 0 = .ok (.iload_n 1, 1) := by decide +kernel
theorem dX11_grown_1 : decode cX11_grown 1 = .ok (.iconst (-1), 1) := by decide +kernel
theorem dX11_grown_2 : decode cX11_grown 2 = .ok (.if_icmp .ne 13, 3) := by decide +kernel
theorem dX11_grown_5 : decode cX11_grown 5 = .ok (.aload_n 0, 1) := by decide +kernel
theorem dX11_grown_6 : decode cX11_grown 6 = .ok (.getfield 10, 3) := by decide +kernel
theorem dX11_grown_9 : decode cX11_grown 9 = .ok (.iconst 0, 1) := by decide +kernel
theorem dX11_grown_10 : decode cX11_grown 10 = .ok (.putfield 336, 3) := by decide +kernel
theorem dX11_grown_13 : decode cX11_grown 13 = .ok (.iconst 0, 1) := by decide +kernel
theorem dX11_grown_14 : decode cX11_grown 14 = .ok (.ireturn, 1) := by decide +kernel
theorem dX11_grown_15 : decode cX11_grown 15 = .ok (.aload_n 0, 1) := by decide +kernel
theorem dX11_grown_16 : decode cX11_grown 16 = .ok (.getfield 10, 3) := by decide +kernel
theorem dX11_grown_19 : decode cX11_grown 19 = .ok (.iload_n 1, 1) := by decide +kernel
theorem dX11_grown_20 : decode cX11_grown 20 = .ok (.invokevirtual 197, 3) := by decide +kernel
theorem dX11_grown_23 : decode cX11_grown 23 = .ok (.ifCond .eq 25, 3) := by decide +kernel
theorem dX11_grown_26 : decode cX11_grown 26 = .ok (.iload_n 2, 1) := by decide +kernel
theorem dX11_grown_27 : decode cX11_grown 27 = .ok (.iconst 0, 1) := by decide +kernel
theorem dX11_grown_28 : decode cX11_grown 28 = .ok (.bipush 9, 2) := by decide +kernel
theorem dX11_grown_30 : decode cX11_grown 30 = .ok (.invokestatic 72, 3) := by decide +kernel
theorem dX11_grown_33 : decode cX11_grown 33 = .ok (.ifCond .eq 15, 3) := by decide +kernel
theorem dX11_grown_36 : decode cX11_grown 36 = .ok (.aload_n 0, 1) := by decide +kernel
theorem dX11_grown_37 : decode cX11_grown 37 = .ok (.getfield 10, 3) := by decide +kernel
theorem dX11_grown_40 : decode cX11_grown 40 = .ok (.getfield 336, 3) := by decide +kernel
theorem dX11_grown_43 : decode cX11_grown 43 = .ok (.bipush 8, 2) := by decide +kernel
theorem dX11_grown_45 : decode cX11_grown 45 = .ok (.if_icmp .lt 6, 3) := by decide +kernel
theorem dX11_grown_48 : decode cX11_grown 48 = .ok (.bipush (-2), 2) := by decide +kernel
theorem dX11_grown_50 : decode cX11_grown 50 = .ok (.ireturn, 1) := by decide +kernel
theorem dX11_grown_51 : decode cX11_grown 51 = .ok (.aload_n 0, 1) := by decide +kernel
theorem dX11_grown_52 : decode cX11_grown 52 = .ok (.getfield 10, 3) := by decide +kernel
theorem dX11_grown_55 : decode cX11_grown 55 = .ok (.getfield 339, 3) := by decide +kernel
theorem dX11_grown_58 : decode cX11_grown 58 = .ok (.aload_n 0, 1) := by decide +kernel
theorem dX11_grown_59 : decode cX11_grown 59 = .ok (.getfield 10, 3) := by decide +kernel
theorem dX11_grown_62 : decode cX11_grown 62 = .ok (.getfield 336, 3) := by decide +kernel
theorem dX11_grown_65 : decode cX11_grown 65 = .ok (.iload_n 1, 1) := by decide +kernel
theorem dX11_grown_66 : decode cX11_grown 66 = .ok (.bipush 10, 2) := by decide +kernel
theorem dX11_grown_68 : decode cX11_grown 68 = .ok (.imul, 1) := by decide +kernel
theorem dX11_grown_69 : decode cX11_grown 69 = .ok (.iload_n 2, 1) := by decide +kernel
theorem dX11_grown_70 : decode cX11_grown 70 = .ok (.iadd, 1) := by decide +kernel
theorem dX11_grown_71 : decode cX11_grown 71 = .ok (.invokestatic 94, 3) := by decide +kernel
theorem dX11_grown_74 : decode cX11_grown 74 = .ok (.aload_n 0, 1) := by decide +kernel
theorem dX11_grown_75 : decode cX11_grown 75 = .ok (.getfield 10, 3) := by decide +kernel
theorem dX11_grown_78 : decode cX11_grown 78 = .ok (.dup, 1) := by decide +kernel
theorem dX11_grown_79 : decode cX11_grown 79 = .ok (.getfield 336, 3) := by decide +kernel
theorem dX11_grown_82 : decode cX11_grown 82 = .ok (.iconst 1, 1) := by decide +kernel
theorem dX11_grown_83 : decode cX11_grown 83 = .ok (.iadd, 1) := by decide +kernel
theorem dX11_grown_84 : decode cX11_grown 84 = .ok (.putfield 336, 3) := by decide +kernel
theorem dX11_grown_87 : decode cX11_grown 87 = .ok (.aload_n 0, 1) := by decide +kernel
theorem dX11_grown_88 : decode cX11_grown 88 = .ok (.getfield 10, 3) := by decide +kernel
theorem dX11_grown_91 : decode cX11_grown 91 = .ok (.getfield 336, 3) := by decide +kernel
theorem dX11_grown_94 : decode cX11_grown 94 = .ok (.ireturn, 1) := by decide +kernel
set_option maxRecDepth 20000 in
theorem ggX11_whose_X0_textAt : GoodIn wsX11_whose wsX0_textAt := goodIn_r _ [7, 8, 9, 123, 124, 125, 126, 127, 128, 129, 130, 131, 132, 133, 134, 135, 136, 137, 138] rfl (by decide +kernel)
set_option maxRecDepth 20000 in
theorem gX11_whose_X0_textAt : GoodIn wsX11_whose (wsV RX11 171 RX0 yX0_textAt wsX0_textAt) := goodIn_app (goodIn_of _ (by decide +kernel)) ggX11_whose_X0_textAt
set_option maxRecDepth 20000 in
theorem ggX11_whose_X11_growsAsTold : GoodIn wsX11_whose wsX11_growsAsTold := goodIn_r _ [14, 1, 15, 16, 17, 18, 19, 13, 20, 21, 22, 23, 24, 25, 26, 27, 28, 29, 30, 6, 31, 32, 33, 34, 35, 36, 37, 38, 39, 40, 41, 42, 43, 44, 45, 46, 47, 48, 49, 50, 51, 52, 53, 54, 55, 56, 57, 58, 59, 60, 61, 62, 63, 64, 65, 66, 67, 68, 69, 70, 71, 72, 73, 74, 75, 76, 77, 78, 79, 80, 81, 82, 83, 84, 85, 86, 87, 88, 89, 90, 91, 92, 93, 94, 95, 96, 97, 98, 99, 100, 101, 102, 103, 104, 105, 106, 107, 108, 109, 110, 111, 112, 113, 114, 115, 116, 117, 118, 119, 120, 121, 122, 123, 124, 125, 126, 127, 128, 129, 130, 131, 132, 133, 134, 135, 136, 137, 138, 139, 140, 141, 142, 143, 144, 145, 146] rfl (by decide +kernel)
set_option maxRecDepth 20000 in
theorem gX11_whose_X11_growsAsTold : GoodIn wsX11_whose (wsV RX11 342 RX11 yX11_growsAsTold wsX11_growsAsTold) := goodIn_app (goodIn_of _ (by decide +kernel)) ggX11_whose_X11_growsAsTold
theorem dX11_whose_0 : decode cX11_whose 0 = .ok (.iconst 0, 1) := by decide +kernel
theorem dX11_whose_1 : decode cX11_whose 1 = .ok (.istore_n 1, 1) := by decide +kernel
theorem dX11_whose_2 : decode cX11_whose 2 = .ok (.iconst 0, 1) := by decide +kernel
theorem dX11_whose_3 : decode cX11_whose 3 = .ok (.istore_n 2, 1) := by decide +kernel
theorem dX11_whose_4 : decode cX11_whose 4 = .ok (.iload_n 2, 1) := by decide +kernel
theorem dX11_whose_5 : decode cX11_whose 5 = .ok (.aload_n 0, 1) := by decide +kernel
theorem dX11_whose_6 : decode cX11_whose 6 = .ok (.getfield 10, 3) := by decide +kernel
theorem dX11_whose_9 : decode cX11_whose 9 = .ok (.getfield 110, 3) := by decide +kernel
theorem dX11_whose_12 : decode cX11_whose 12 = .ok (.if_icmp .ge 30, 3) := by decide +kernel
theorem dX11_whose_15 : decode cX11_whose 15 = .ok (.aload_n 0, 1) := by decide +kernel
theorem dX11_whose_16 : decode cX11_whose 16 = .ok (.aload_n 0, 1) := by decide +kernel
theorem dX11_whose_17 : decode cX11_whose 17 = .ok (.getfield 10, 3) := by decide +kernel
theorem dX11_whose_20 : decode cX11_whose 20 = .ok (.iload_n 2, 1) := by decide +kernel
theorem dX11_whose_21 : decode cX11_whose 21 = .ok (.invokevirtual 171, 3) := by decide +kernel
theorem dX11_whose_24 : decode cX11_whose 24 = .ok (.invokevirtual 342, 3) := by decide +kernel
theorem dX11_whose_27 : decode cX11_whose 27 = .ok (.ifCond .eq 9, 3) := by decide +kernel
theorem dX11_whose_30 : decode cX11_whose 30 = .ok (.iload_n 1, 1) := by decide +kernel
theorem dX11_whose_31 : decode cX11_whose 31 = .ok (.iconst 1, 1) := by decide +kernel
theorem dX11_whose_32 : decode cX11_whose 32 = .ok (.iload_n 2, 1) := by decide +kernel
theorem dX11_whose_33 : decode cX11_whose 33 = .ok (.ishl, 1) := by decide +kernel
theorem dX11_whose_34 : decode cX11_whose 34 = .ok (.ior, 1) := by decide +kernel
theorem dX11_whose_35 : decode cX11_whose 35 = .ok (.istore_n 1, 1) := by decide +kernel
theorem dX11_whose_36 : decode cX11_whose 36 = .ok (.iinc 2 1, 3) := by decide +kernel
theorem dX11_whose_39 : decode cX11_whose 39 = .ok (.goto (-35), 3) := by decide +kernel
theorem dX11_whose_42 : decode cX11_whose 42 = .ok (.iload_n 1, 1) := by decide +kernel
theorem dX11_whose_43 : decode cX11_whose 43 = .ok (.ireturn, 1) := by decide +kernel
set_option maxRecDepth 20000 in
theorem ggX11_clocks_X0_hasClown : GoodIn wsX11_clocks wsX0_hasClown := goodIn_r _ [6, 7, 8, 9, 10, 32, 33, 34, 35, 36, 37, 38, 39, 40, 41, 42, 43, 44, 45, 46, 47] rfl (by decide +kernel)
set_option maxRecDepth 20000 in
theorem gX11_clocks_X0_hasClown : GoodIn wsX11_clocks (wsV RX11 214 RX0 yX0_hasClown wsX0_hasClown) := goodIn_app (goodIn_of _ (by decide +kernel)) ggX11_clocks_X0_hasClown
set_option maxRecDepth 20000 in
theorem ggX11_clocks_X0_houseCount : GoodIn wsX11_clocks wsX0_houseCount := goodIn_r _ [14, 7, 15, 16, 17, 18, 8, 9, 10, 32, 33, 34, 35, 36, 37, 38, 39, 40, 41, 42, 43, 44, 45, 46, 47] rfl (by decide +kernel)
set_option maxRecDepth 20000 in
theorem gX11_clocks_X0_houseCount : GoodIn wsX11_clocks (wsV RX11 346 RX0 yX0_houseCount wsX0_houseCount) := goodIn_app (goodIn_of _ (by decide +kernel)) ggX11_clocks_X0_houseCount
set_option maxRecDepth 20000 in
theorem ggX11_clocks_X0_see : GoodIn wsX11_clocks wsX0_see := goodIn_r _ [22, 7, 8, 9, 10, 32, 33, 34, 35, 36, 37, 38, 39, 40, 41, 42, 43, 44, 45, 46, 47] rfl (by decide +kernel)
set_option maxRecDepth 20000 in
theorem gX11_clocks_X0_see : GoodIn wsX11_clocks (wsV RX11 157 RX0 yX0_see wsX0_see) := goodIn_app (goodIn_of _ (by decide +kernel)) ggX11_clocks_X0_see
theorem dX11_clocks_0 : decode cX11_clocks 0 = .ok (.aload_n 0, 1) := by decide +kernel
theorem dX11_clocks_1 : decode cX11_clocks 1 = .ok (.getfield 10, 3) := by decide +kernel
theorem dX11_clocks_4 : decode cX11_clocks 4 = .ok (.iload_n 1, 1) := by decide +kernel
theorem dX11_clocks_5 : decode cX11_clocks 5 = .ok (.invokevirtual 214, 3) := by decide +kernel
theorem dX11_clocks_8 : decode cX11_clocks 8 = .ok (.ifCond .ne 5, 3) := by decide +kernel
theorem dX11_clocks_11 : decode cX11_clocks 11 = .ok (.iconst (-1), 1) := by decide +kernel
theorem dX11_clocks_12 : decode cX11_clocks 12 = .ok (.ireturn, 1) := by decide +kernel
theorem dX11_clocks_13 : decode cX11_clocks 13 = .ok (.iconst 0, 1) := by decide +kernel
theorem dX11_clocks_14 : decode cX11_clocks 14 = .ok (.istore_n 2, 1) := by decide +kernel
theorem dX11_clocks_15 : decode cX11_clocks 15 = .ok (.iconst 0, 1) := by decide +kernel
theorem dX11_clocks_16 : decode cX11_clocks 16 = .ok (.istore_n 3, 1) := by decide +kernel
theorem dX11_clocks_17 : decode cX11_clocks 17 = .ok (.iload_n 3, 1) := by decide +kernel
theorem dX11_clocks_18 : decode cX11_clocks 18 = .ok (.aload_n 0, 1) := by decide +kernel
theorem dX11_clocks_19 : decode cX11_clocks 19 = .ok (.getfield 10, 3) := by decide +kernel
theorem dX11_clocks_22 : decode cX11_clocks 22 = .ok (.invokevirtual 346, 3) := by decide +kernel
theorem dX11_clocks_25 : decode cX11_clocks 25 = .ok (.if_icmp .ge 29, 3) := by decide +kernel
theorem dX11_clocks_28 : decode cX11_clocks 28 = .ok (.aload_n 0, 1) := by decide +kernel
theorem dX11_clocks_29 : decode cX11_clocks 29 = .ok (.getfield 10, 3) := by decide +kernel
theorem dX11_clocks_32 : decode cX11_clocks 32 = .ok (.bipush 12, 2) := by decide +kernel
theorem dX11_clocks_34 : decode cX11_clocks 34 = .ok (.iload_n 3, 1) := by decide +kernel
theorem dX11_clocks_35 : decode cX11_clocks 35 = .ok (.invokevirtual 157, 3) := by decide +kernel
theorem dX11_clocks_38 : decode cX11_clocks 38 = .ok (.iload_n 1, 1) := by decide +kernel
theorem dX11_clocks_39 : decode cX11_clocks 39 = .ok (.if_icmp .ne 9, 3) := by decide +kernel
theorem dX11_clocks_42 : decode cX11_clocks 42 = .ok (.iload_n 2, 1) := by decide +kernel
theorem dX11_clocks_43 : decode cX11_clocks 43 = .ok (.iconst 1, 1) := by decide +kernel
theorem dX11_clocks_44 : decode cX11_clocks 44 = .ok (.iload_n 3, 1) := by decide +kernel
theorem dX11_clocks_45 : decode cX11_clocks 45 = .ok (.ishl, 1) := by decide +kernel
theorem dX11_clocks_46 : decode cX11_clocks 46 = .ok (.ior, 1) := by decide +kernel
theorem dX11_clocks_47 : decode cX11_clocks 47 = .ok (.istore_n 2, 1) := by decide +kernel
theorem dX11_clocks_48 : decode cX11_clocks 48 = .ok (.iinc 3 1, 3) := by decide +kernel
theorem dX11_clocks_51 : decode cX11_clocks 51 = .ok (.goto (-34), 3) := by decide +kernel
theorem dX11_clocks_54 : decode cX11_clocks 54 = .ok (.iload_n 2, 1) := by decide +kernel
theorem dX11_clocks_55 : decode cX11_clocks 55 = .ok (.ireturn, 1) := by decide +kernel
set_option maxRecDepth 20000 in
theorem ggX11_saddest_X0_houseCount : GoodIn wsX11_saddest wsX0_houseCount := goodIn_r _ [6, 7, 8, 9, 10, 11, 12, 13, 14, 32, 33, 34, 35, 36, 37, 38, 39, 40, 41, 42, 43, 44, 45, 46, 47] rfl (by decide +kernel)
set_option maxRecDepth 20000 in
theorem gX11_saddest_X0_houseCount : GoodIn wsX11_saddest (wsV RX11 346 RX0 yX0_houseCount wsX0_houseCount) := goodIn_app (goodIn_of _ (by decide +kernel)) ggX11_saddest_X0_houseCount
set_option maxRecDepth 20000 in
theorem ggX11_saddest_X0_highest : GoodIn wsX11_saddest wsX0_highest := goodIn_r _ [18, 19, 20, 21, 5, 22, 7, 12, 13, 14, 32, 33, 34, 35, 36, 37, 38, 39, 40, 41, 42, 43, 44, 45, 46, 47] rfl (by decide +kernel)
set_option maxRecDepth 20000 in
theorem gX11_saddest_X0_highest : GoodIn wsX11_saddest (wsV RX11 349 RX0 yX0_highest wsX0_highest) := goodIn_app (goodIn_of _ (by decide +kernel)) ggX11_saddest_X0_highest
theorem dX11_saddest_0 : decode cX11_saddest 0 = .ok (.aload_n 0, 1) := by decide +kernel
theorem dX11_saddest_1 : decode cX11_saddest 1 = .ok (.getfield 10, 3) := by decide +kernel
theorem dX11_saddest_4 : decode cX11_saddest 4 = .ok (.iconst 0, 1) := by decide +kernel
theorem dX11_saddest_5 : decode cX11_saddest 5 = .ok (.aload_n 0, 1) := by decide +kernel
theorem dX11_saddest_6 : decode cX11_saddest 6 = .ok (.getfield 10, 3) := by decide +kernel
theorem dX11_saddest_9 : decode cX11_saddest 9 = .ok (.invokevirtual 346, 3) := by decide +kernel
theorem dX11_saddest_12 : decode cX11_saddest 12 = .ok (.invokevirtual 349, 3) := by decide +kernel
theorem dX11_saddest_15 : decode cX11_saddest 15 = .ok (.ireturn, 1) := by decide +kernel
set_option maxRecDepth 20000 in
theorem ggX11_tiredest_X0_clownCount : GoodIn wsX11_tiredest wsX0_clownCount := goodIn_r _ [6, 7, 8, 9, 10, 11, 12, 13, 14, 32, 33, 34, 35, 36, 37, 38, 39, 40, 41, 42, 43, 44, 45, 46, 47] rfl (by decide +kernel)
set_option maxRecDepth 20000 in
theorem gX11_tiredest_X0_clownCount : GoodIn wsX11_tiredest (wsV RX11 352 RX0 yX0_clownCount wsX0_clownCount) := goodIn_app (goodIn_of _ (by decide +kernel)) ggX11_tiredest_X0_clownCount
set_option maxRecDepth 20000 in
theorem ggX11_tiredest_X0_highest : GoodIn wsX11_tiredest wsX0_highest := goodIn_r _ [18, 19, 20, 21, 5, 22, 7, 12, 13, 14, 32, 33, 34, 35, 36, 37, 38, 39, 40, 41, 42, 43, 44, 45, 46, 47] rfl (by decide +kernel)
set_option maxRecDepth 20000 in
theorem gX11_tiredest_X0_highest : GoodIn wsX11_tiredest (wsV RX11 349 RX0 yX0_highest wsX0_highest) := goodIn_app (goodIn_of _ (by decide +kernel)) ggX11_tiredest_X0_highest
theorem dX11_tiredest_0 : decode cX11_tiredest 0 = .ok (.aload_n 0, 1) := by decide +kernel
theorem dX11_tiredest_1 : decode cX11_tiredest 1 = .ok (.getfield 10, 3) := by decide +kernel
theorem dX11_tiredest_4 : decode cX11_tiredest 4 = .ok (.bipush 24, 2) := by decide +kernel
theorem dX11_tiredest_6 : decode cX11_tiredest 6 = .ok (.aload_n 0, 1) := by decide +kernel
theorem dX11_tiredest_7 : decode cX11_tiredest 7 = .ok (.getfield 10, 3) := by decide +kernel
theorem dX11_tiredest_10 : decode cX11_tiredest 10 = .ok (.invokevirtual 352, 3) := by decide +kernel
theorem dX11_tiredest_13 : decode cX11_tiredest 13 = .ok (.invokevirtual 349, 3) := by decide +kernel
theorem dX11_tiredest_16 : decode cX11_tiredest 16 = .ok (.ireturn, 1) := by decide +kernel
set_option maxRecDepth 20000 in
theorem ggX11_sitting_X0_clownCount : GoodIn wsX11_sitting wsX0_clownCount := goodIn_r _ [6, 7, 8, 9, 10, 11, 12, 13, 14, 37, 38, 39, 40, 41, 42, 43, 44, 45, 46, 47, 48, 49, 50, 51, 52] rfl (by decide +kernel)
set_option maxRecDepth 20000 in
theorem gX11_sitting_X0_clownCount : GoodIn wsX11_sitting (wsV RX11 352 RX0 yX0_clownCount wsX0_clownCount) := goodIn_app (goodIn_of _ (by decide +kernel)) ggX11_sitting_X0_clownCount
set_option maxRecDepth 20000 in
theorem ggX11_sitting_X0_isOut : GoodIn wsX11_sitting wsX0_isOut := goodIn_r _ [18, 19, 20, 21, 5, 22, 7, 12, 13, 14, 23, 24, 25, 26, 37, 38, 39, 40, 41, 42, 43, 44, 45, 46, 47, 48, 49, 50, 51, 52] rfl (by decide +kernel)
set_option maxRecDepth 20000 in
theorem gX11_sitting_X0_isOut : GoodIn wsX11_sitting (wsV RX11 223 RX0 yX0_isOut wsX0_isOut) := goodIn_app (goodIn_of _ (by decide +kernel)) ggX11_sitting_X0_isOut
set_option maxRecDepth 20000 in
theorem ggX11_sitting_X0_see : GoodIn wsX11_sitting wsX0_see := goodIn_r _ [26, 7, 12, 13, 14, 37, 38, 39, 40, 41, 42, 43, 44, 45, 46, 47, 48, 49, 50, 51, 52] rfl (by decide +kernel)
set_option maxRecDepth 20000 in
theorem gX11_sitting_X0_see : GoodIn wsX11_sitting (wsV RX11 157 RX0 yX0_see wsX0_see) := goodIn_app (goodIn_of _ (by decide +kernel)) ggX11_sitting_X0_see
theorem dX11_sitting_0 : decode cX11_sitting 0 = .ok (.iconst 0, 1) := by decide +kernel
theorem dX11_sitting_1 : decode cX11_sitting 1 = .ok (.istore_n 1, 1) := by decide +kernel
theorem dX11_sitting_2 : decode cX11_sitting 2 = .ok (.iconst 0, 1) := by decide +kernel
theorem dX11_sitting_3 : decode cX11_sitting 3 = .ok (.istore_n 2, 1) := by decide +kernel
theorem dX11_sitting_4 : decode cX11_sitting 4 = .ok (.iload_n 2, 1) := by decide +kernel
theorem dX11_sitting_5 : decode cX11_sitting 5 = .ok (.aload_n 0, 1) := by decide +kernel
theorem dX11_sitting_6 : decode cX11_sitting 6 = .ok (.getfield 10, 3) := by decide +kernel
theorem dX11_sitting_9 : decode cX11_sitting 9 = .ok (.invokevirtual 352, 3) := by decide +kernel
theorem dX11_sitting_12 : decode cX11_sitting 12 = .ok (.if_icmp .ge 41, 3) := by decide +kernel
theorem dX11_sitting_15 : decode cX11_sitting 15 = .ok (.aload_n 0, 1) := by decide +kernel
theorem dX11_sitting_16 : decode cX11_sitting 16 = .ok (.getfield 10, 3) := by decide +kernel
theorem dX11_sitting_19 : decode cX11_sitting 19 = .ok (.iload_n 2, 1) := by decide +kernel
theorem dX11_sitting_20 : decode cX11_sitting 20 = .ok (.invokevirtual 223, 3) := by decide +kernel
theorem dX11_sitting_23 : decode cX11_sitting 23 = .ok (.ifCond .eq 24, 3) := by decide +kernel
theorem dX11_sitting_26 : decode cX11_sitting 26 = .ok (.aload_n 0, 1) := by decide +kernel
theorem dX11_sitting_27 : decode cX11_sitting 27 = .ok (.getfield 10, 3) := by decide +kernel
theorem dX11_sitting_30 : decode cX11_sitting 30 = .ok (.bipush 24, 2) := by decide +kernel
theorem dX11_sitting_32 : decode cX11_sitting 32 = .ok (.iload_n 2, 1) := by decide +kernel
theorem dX11_sitting_33 : decode cX11_sitting 33 = .ok (.invokevirtual 157, 3) := by decide +kernel
theorem dX11_sitting_36 : decode cX11_sitting 36 = .ok (.bipush 9, 2) := by decide +kernel
theorem dX11_sitting_38 : decode cX11_sitting 38 = .ok (.if_icmp .ne 9, 3) := by decide +kernel
theorem dX11_sitting_41 : decode cX11_sitting 41 = .ok (.iload_n 1, 1) := by decide +kernel
theorem dX11_sitting_42 : decode cX11_sitting 42 = .ok (.iconst 1, 1) := by decide +kernel
theorem dX11_sitting_43 : decode cX11_sitting 43 = .ok (.iload_n 2, 1) := by decide +kernel
theorem dX11_sitting_44 : decode cX11_sitting 44 = .ok (.ishl, 1) := by decide +kernel
theorem dX11_sitting_45 : decode cX11_sitting 45 = .ok (.ior, 1) := by decide +kernel
theorem dX11_sitting_46 : decode cX11_sitting 46 = .ok (.istore_n 1, 1) := by decide +kernel
theorem dX11_sitting_47 : decode cX11_sitting 47 = .ok (.iinc 2 1, 3) := by decide +kernel
theorem dX11_sitting_50 : decode cX11_sitting 50 = .ok (.goto (-46), 3) := by decide +kernel
theorem dX11_sitting_53 : decode cX11_sitting 53 = .ok (.iload_n 1, 1) := by decide +kernel
theorem dX11_sitting_54 : decode cX11_sitting 54 = .ok (.ireturn, 1) := by decide +kernel
set_option maxRecDepth 20000 in
theorem ggX11_ledger_X0_hasClown : GoodIn wsX11_ledger wsX0_hasClown := goodIn_r _ [6, 7, 8, 9, 10, 24, 25, 26, 27, 28, 29, 30, 31, 32, 33, 34, 35, 36, 37, 38, 39] rfl (by decide +kernel)
set_option maxRecDepth 20000 in
theorem gX11_ledger_X0_hasClown : GoodIn wsX11_ledger (wsV RX11 214 RX0 yX0_hasClown wsX0_hasClown) := goodIn_app (goodIn_of _ (by decide +kernel)) ggX11_ledger_X0_hasClown
set_option maxRecDepth 20000 in
theorem ggX11_ledger_X0_see : GoodIn wsX11_ledger wsX0_see := goodIn_r _ [14, 7, 8, 9, 10, 24, 25, 26, 27, 28, 29, 30, 31, 32, 33, 34, 35, 36, 37, 38, 39] rfl (by decide +kernel)
set_option maxRecDepth 20000 in
theorem gX11_ledger_X0_see : GoodIn wsX11_ledger (wsV RX11 157 RX0 yX0_see wsX0_see) := goodIn_app (goodIn_of _ (by decide +kernel)) ggX11_ledger_X0_see
theorem dX11_ledger_0 : decode cX11_ledger 0 = .ok (.iload_n 1, 1) := by decide +kernel
theorem dX11_ledger_1 : decode cX11_ledger 1 = .ok (.iconst (-1), 1) := by decide +kernel
theorem dX11_ledger_2 : decode cX11_ledger 2 = .ok (.if_icmp .eq 17, 3) := by decide +kernel
theorem dX11_ledger_5 : decode cX11_ledger 5 = .ok (.aload_n 0, 1) := by decide +kernel
theorem dX11_ledger_6 : decode cX11_ledger 6 = .ok (.getfield 10, 3) := by decide +kernel
theorem dX11_ledger_9 : decode cX11_ledger 9 = .ok (.iload_n 1, 1) := by decide +kernel
theorem dX11_ledger_10 : decode cX11_ledger 10 = .ok (.invokevirtual 214, 3) := by decide +kernel
theorem dX11_ledger_13 : decode cX11_ledger 13 = .ok (.ifCond .ne 6, 3) := by decide +kernel
theorem dX11_ledger_16 : decode cX11_ledger 16 = .ok (.bipush (-2), 2) := by decide +kernel
theorem dX11_ledger_18 : decode cX11_ledger 18 = .ok (.ireturn, 1) := by decide +kernel
theorem dX11_ledger_19 : decode cX11_ledger 19 = .ok (.iconst 0, 1) := by decide +kernel
theorem dX11_ledger_20 : decode cX11_ledger 20 = .ok (.istore_n 2, 1) := by decide +kernel
theorem dX11_ledger_21 : decode cX11_ledger 21 = .ok (.iconst 0, 1) := by decide +kernel
theorem dX11_ledger_22 : decode cX11_ledger 22 = .ok (.istore_n 3, 1) := by decide +kernel
theorem dX11_ledger_23 : decode cX11_ledger 23 = .ok (.iload_n 3, 1) := by decide +kernel
theorem dX11_ledger_24 : decode cX11_ledger 24 = .ok (.aload_n 0, 1) := by decide +kernel
theorem dX11_ledger_25 : decode cX11_ledger 25 = .ok (.getfield 10, 3) := by decide +kernel
theorem dX11_ledger_28 : decode cX11_ledger 28 = .ok (.bipush 41, 2) := by decide +kernel
theorem dX11_ledger_30 : decode cX11_ledger 30 = .ok (.iconst 0, 1) := by decide +kernel
theorem dX11_ledger_31 : decode cX11_ledger 31 = .ok (.invokevirtual 157, 3) := by decide +kernel
theorem dX11_ledger_34 : decode cX11_ledger 34 = .ok (.if_icmp .ge 40, 3) := by decide +kernel
theorem dX11_ledger_37 : decode cX11_ledger 37 = .ok (.iload_n 3, 1) := by decide +kernel
theorem dX11_ledger_38 : decode cX11_ledger 38 = .ok (.bipush 30, 2) := by decide +kernel
theorem dX11_ledger_40 : decode cX11_ledger 40 = .ok (.if_icmp .ge 34, 3) := by decide +kernel
theorem dX11_ledger_43 : decode cX11_ledger 43 = .ok (.iload_n 1, 1) := by decide +kernel
theorem dX11_ledger_44 : decode cX11_ledger 44 = .ok (.iconst (-1), 1) := by decide +kernel
theorem dX11_ledger_45 : decode cX11_ledger 45 = .ok (.if_icmp .eq 20, 3) := by decide +kernel
theorem dX11_ledger_48 : decode cX11_ledger 48 = .ok (.aload_n 0, 1) := by decide +kernel
theorem dX11_ledger_49 : decode cX11_ledger 49 = .ok (.getfield 10, 3) := by decide +kernel
theorem dX11_ledger_52 : decode cX11_ledger 52 = .ok (.bipush 42, 2) := by decide +kernel
theorem dX11_ledger_54 : decode cX11_ledger 54 = .ok (.iload_n 3, 1) := by decide +kernel
theorem dX11_ledger_55 : decode cX11_ledger 55 = .ok (.invokevirtual 157, 3) := by decide +kernel
theorem dX11_ledger_58 : decode cX11_ledger 58 = .ok (.bipush 7, 2) := by decide +kernel
theorem dX11_ledger_60 : decode cX11_ledger 60 = .ok (.iand, 1) := by decide +kernel
theorem dX11_ledger_61 : decode cX11_ledger 61 = .ok (.iload_n 1, 1) := by decide +kernel
theorem dX11_ledger_62 : decode cX11_ledger 62 = .ok (.if_icmp .ne 6, 3) := by decide +kernel
theorem dX11_ledger_65 : decode cX11_ledger 65 = .ok (.iinc 2 1, 3) := by decide +kernel
theorem dX11_ledger_68 : decode cX11_ledger 68 = .ok (.iinc 3 1, 3) := by decide +kernel
theorem dX11_ledger_71 : decode cX11_ledger 71 = .ok (.goto (-48), 3) := by decide +kernel
theorem dX11_ledger_74 : decode cX11_ledger 74 = .ok (.iload_n 2, 1) := by decide +kernel
theorem dX11_ledger_75 : decode cX11_ledger 75 = .ok (.ireturn, 1) := by decide +kernel
set_option maxRecDepth 20000 in
theorem ggX11_image_X0_becomes : GoodIn wsX11_image wsX0_becomes := goodIn_r _ [7, 8, 9, 10, 11, 12, 13, 14, 15, 16, 17, 18, 19, 20, 21, 22, 23, 24, 25, 26, 27, 28, 29, 30, 31, 32, 33, 34, 35, 36, 37, 38, 39, 40, 41, 57, 58, 59, 60, 61, 62, 63, 64, 65, 66, 67, 68, 69, 70, 71, 72, 73, 74, 75] rfl (by decide +kernel)
set_option maxRecDepth 20000 in
theorem gX11_image_X0_becomes : GoodIn wsX11_image (wsV RX11 355 RX0 yX0_becomes wsX0_becomes) := goodIn_app (goodIn_of _ (by decide +kernel)) ggX11_image_X0_becomes
set_option maxRecDepth 20000 in
theorem ggX11_image_X0_today : GoodIn wsX11_image wsX0_today := goodIn_r _ [45, 8, 46, 25, 47, 57, 58, 59, 60, 61, 62, 63, 64, 65, 66, 67, 68, 69, 70, 71, 72] rfl (by decide +kernel)
set_option maxRecDepth 20000 in
theorem gX11_image_X0_today : GoodIn wsX11_image (wsV RX11 163 RX0 yX0_today wsX0_today) := goodIn_app (goodIn_of _ (by decide +kernel)) ggX11_image_X0_today
theorem dX11_image_0 : decode cX11_image 0 = .ok (.aload_n 0, 1) := by decide +kernel
theorem dX11_image_1 : decode cX11_image 1 = .ok (.getfield 16, 3) := by decide +kernel
theorem dX11_image_4 : decode cX11_image 4 = .ok (.aload_n 0, 1) := by decide +kernel
theorem dX11_image_5 : decode cX11_image 5 = .ok (.getfield 10, 3) := by decide +kernel
theorem dX11_image_8 : decode cX11_image 8 = .ok (.invokevirtual 355, 3) := by decide +kernel
theorem dX11_image_11 : decode cX11_image 11 = .ok (.aload_n 0, 1) := by decide +kernel
theorem dX11_image_12 : decode cX11_image 12 = .ok (.getfield 10, 3) := by decide +kernel
theorem dX11_image_15 : decode cX11_image 15 = .ok (.invokevirtual 163, 3) := by decide +kernel
theorem dX11_image_18 : decode cX11_image 18 = .ok (.ireturn, 1) := by decide +kernel
set_option maxRecDepth 20000 in
theorem ggX11_back_X0_becomes : GoodIn wsX11_back wsX0_becomes := goodIn_r _ [7, 8, 9, 10, 11, 12, 13, 14, 15, 16, 17, 18, 19, 20, 21, 22, 23, 24, 25, 26, 27, 28, 29, 30, 31, 32, 33, 34, 35, 36, 37, 38, 39, 40, 41, 57, 58, 59, 60, 61, 62, 63, 64, 65, 66, 67, 68, 69, 70, 71, 72, 73, 74, 75] rfl (by decide +kernel)
set_option maxRecDepth 20000 in
theorem gX11_back_X0_becomes : GoodIn wsX11_back (wsV RX11 355 RX0 yX0_becomes wsX0_becomes) := goodIn_app (goodIn_of _ (by decide +kernel)) ggX11_back_X0_becomes
set_option maxRecDepth 20000 in
theorem ggX11_back_X0_today : GoodIn wsX11_back wsX0_today := goodIn_r _ [45, 8, 46, 25, 47, 57, 58, 59, 60, 61, 62, 63, 64, 65, 66, 67, 68, 69, 70, 71, 72] rfl (by decide +kernel)
set_option maxRecDepth 20000 in
theorem gX11_back_X0_today : GoodIn wsX11_back (wsV RX11 163 RX0 yX0_today wsX0_today) := goodIn_app (goodIn_of _ (by decide +kernel)) ggX11_back_X0_today
theorem dX11_back_0 : decode cX11_back 0 = .ok (.aload_n 0, 1) := by decide +kernel
theorem dX11_back_1 : decode cX11_back 1 = .ok (.getfield 10, 3) := by decide +kernel
theorem dX11_back_4 : decode cX11_back 4 = .ok (.aload_n 0, 1) := by decide +kernel
theorem dX11_back_5 : decode cX11_back 5 = .ok (.getfield 16, 3) := by decide +kernel
theorem dX11_back_8 : decode cX11_back 8 = .ok (.invokevirtual 355, 3) := by decide +kernel
theorem dX11_back_11 : decode cX11_back 11 = .ok (.aload_n 0, 1) := by decide +kernel
theorem dX11_back_12 : decode cX11_back 12 = .ok (.getfield 10, 3) := by decide +kernel
theorem dX11_back_15 : decode cX11_back 15 = .ok (.invokevirtual 163, 3) := by decide +kernel
theorem dX11_back_18 : decode cX11_back 18 = .ok (.ireturn, 1) := by decide +kernel
set_option maxRecDepth 20000 in
theorem ggX11_about_X0_houseCount : GoodIn wsX11_about wsX0_houseCount := goodIn_r _ [14, 15, 16, 17, 18, 19, 20, 21, 22, 36, 37, 38, 39, 40, 41, 42, 43, 44, 45, 46, 47, 48, 49, 50, 51] rfl (by decide +kernel)
set_option maxRecDepth 20000 in
theorem gX11_about_X0_houseCount : GoodIn wsX11_about (wsV RX11 346 RX0 yX0_houseCount wsX0_houseCount) := goodIn_app (goodIn_of _ (by decide +kernel)) ggX11_about_X0_houseCount
set_option maxRecDepth 20000 in
theorem ggX11_about_X0_clownCount : GoodIn wsX11_about wsX0_clownCount := goodIn_r _ [26, 15, 16, 17, 18, 19, 20, 21, 22, 36, 37, 38, 39, 40, 41, 42, 43, 44, 45, 46, 47, 48, 49, 50, 51] rfl (by decide +kernel)
set_option maxRecDepth 20000 in
theorem gX11_about_X0_clownCount : GoodIn wsX11_about (wsV RX11 352 RX0 yX0_clownCount wsX0_clownCount) := goodIn_app (goodIn_of _ (by decide +kernel)) ggX11_about_X0_clownCount
theorem dX11_about_0 : decode cX11_about 0 = .ok (.iload_n 1, 1) := by decide +kernel
theorem dX11_about_1 : decode cX11_about 1 = .ok (.tableswitch 114 0 7 #[47, 55, 63, 71, 79, 90, 98, 106], 47) := by decide +kernel
theorem dX11_about_48 : decode cX11_about 48 = .ok (.aload_n 0, 1) := by decide +kernel
theorem dX11_about_49 : decode cX11_about 49 = .ok (.getfield 10, 3) := by decide +kernel
theorem dX11_about_52 : decode cX11_about 52 = .ok (.invokevirtual 346, 3) := by decide +kernel
theorem dX11_about_55 : decode cX11_about 55 = .ok (.ireturn, 1) := by decide +kernel
theorem dX11_about_56 : decode cX11_about 56 = .ok (.aload_n 0, 1) := by decide +kernel
theorem dX11_about_57 : decode cX11_about 57 = .ok (.getfield 10, 3) := by decide +kernel
theorem dX11_about_60 : decode cX11_about 60 = .ok (.invokevirtual 352, 3) := by decide +kernel
theorem dX11_about_63 : decode cX11_about 63 = .ok (.ireturn, 1) := by decide +kernel
theorem dX11_about_64 : decode cX11_about 64 = .ok (.aload_n 0, 1) := by decide +kernel
theorem dX11_about_65 : decode cX11_about 65 = .ok (.getfield 10, 3) := by decide +kernel
theorem dX11_about_68 : decode cX11_about 68 = .ok (.getfield 110, 3) := by decide +kernel
theorem dX11_about_71 : decode cX11_about 71 = .ok (.ireturn, 1) := by decide +kernel
theorem dX11_about_72 : decode cX11_about 72 = .ok (.aload_n 0, 1) := by decide +kernel
theorem dX11_about_73 : decode cX11_about 73 = .ok (.getfield 10, 3) := by decide +kernel
theorem dX11_about_76 : decode cX11_about 76 = .ok (.getfield 127, 3) := by decide +kernel
theorem dX11_about_79 : decode cX11_about 79 = .ok (.ireturn, 1) := by decide +kernel
theorem dX11_about_80 : decode cX11_about 80 = .ok (.aload_n 0, 1) := by decide +kernel
theorem dX11_about_81 : decode cX11_about 81 = .ok (.getfield 10, 3) := by decide +kernel
theorem dX11_about_84 : decode cX11_about 84 = .ok (.getfield 134, 3) := by decide +kernel
theorem dX11_about_87 : decode cX11_about 87 = .ok (.getfield 191, 3) := by decide +kernel
theorem dX11_about_90 : decode cX11_about 90 = .ok (.ireturn, 1) := by decide +kernel
theorem dX11_about_91 : decode cX11_about 91 = .ok (.aload_n 0, 1) := by decide +kernel
theorem dX11_about_92 : decode cX11_about 92 = .ok (.getfield 10, 3) := by decide +kernel
theorem dX11_about_95 : decode cX11_about 95 = .ok (.getfield 286, 3) := by decide +kernel
theorem dX11_about_98 : decode cX11_about 98 = .ok (.ireturn, 1) := by decide +kernel
theorem dX11_about_99 : decode cX11_about 99 = .ok (.aload_n 0, 1) := by decide +kernel
theorem dX11_about_100 : decode cX11_about 100 = .ok (.getfield 10, 3) := by decide +kernel
theorem dX11_about_103 : decode cX11_about 103 = .ok (.getfield 336, 3) := by decide +kernel
theorem dX11_about_106 : decode cX11_about 106 = .ok (.ireturn, 1) := by decide +kernel
theorem dX11_about_107 : decode cX11_about 107 = .ok (.aload_n 0, 1) := by decide +kernel
theorem dX11_about_108 : decode cX11_about 108 = .ok (.getfield 22, 3) := by decide +kernel
theorem dX11_about_111 : decode cX11_about 111 = .ok (.getfield 106, 3) := by decide +kernel
theorem dX11_about_114 : decode cX11_about 114 = .ok (.ireturn, 1) := by decide +kernel
theorem dX11_about_115 : decode cX11_about 115 = .ok (.bipush (-2), 2) := by decide +kernel
theorem dX11_about_117 : decode cX11_about 117 = .ok (.ireturn, 1) := by decide +kernel
set_option maxRecDepth 20000 in
theorem ggX11_passDays_X2_canPass : GoodIn wsX11_passDays wsX2_canPass := goodIn_r _ [9, 10, 11, 12, 13, 14, 15, 16, 17, 18, 19, 186, 187, 188, 170, 171, 172, 173, 174, 175, 176, 177, 178, 179, 180, 181, 182, 183, 184, 185] rfl (by decide +kernel)
set_option maxRecDepth 20000 in
theorem gX11_passDays_X2_canPass : GoodIn wsX11_passDays (wsV RX11 235 RX2 yX2_canPass wsX2_canPass) := goodIn_app (goodIn_of _ (by decide +kernel)) ggX11_passDays_X2_canPass
set_option maxRecDepth 20000 in
theorem ggX11_passDays_X8_keepRow : GoodIn wsX11_passDays wsX8_keepRow := goodIn_r _ [24, 25, 26, 27, 28, 29, 30, 23, 31, 32, 18, 33, 34, 35, 36, 37, 189, 190, 191] rfl (by decide +kernel)
set_option maxRecDepth 20000 in
theorem gX11_passDays_X8_keepRow : GoodIn wsX11_passDays (wsV RX11 141 RX8 yX8_keepRow wsX8_keepRow) := goodIn_app (goodIn_of _ (by decide +kernel)) ggX11_passDays_X8_keepRow
set_option maxRecDepth 20000 in
theorem ggX11_passDays_X2_passes : GoodIn wsX11_passDays wsX2_passes := goodIn_r _ [41, 10, 42, 43, 44, 45, 46, 47, 48, 49, 50, 51, 52, 53, 14, 54, 16, 55, 17, 18, 19, 56, 57, 58, 59, 60, 61, 62, 63, 64, 65, 66, 67, 68, 69, 70, 71, 72, 73, 74, 75, 76, 77, 78, 79, 80, 81, 82, 83, 84, 85, 86, 87, 88, 89, 90, 91, 92, 93, 94, 95, 96, 97, 98, 99, 100, 101, 102, 103, 104, 105, 106, 107, 12, 13, 15, 108, 109, 110, 111, 112, 113, 114, 115, 116, 117, 118, 119, 120, 121, 122, 123, 124, 125, 126, 127, 128, 129, 130, 131, 132, 133, 134, 135, 136, 137, 138, 139, 140, 141, 142, 143, 144, 145, 146, 147, 148, 149, 150, 151, 152, 153, 154, 155, 156, 157, 158, 159, 160, 11, 186, 187, 188, 170, 171, 172, 173, 174, 175, 176, 177, 178, 179, 180, 181, 182, 183, 184, 185, 192, 193, 194, 195, 196, 197, 198, 199] rfl (by decide +kernel)
set_option maxRecDepth 20000 in
theorem gX11_passDays_X2_passes : GoodIn wsX11_passDays (wsV RX11 238 RX2 yX2_passes wsX2_passes) := goodIn_app (goodIn_of _ (by decide +kernel)) ggX11_passDays_X2_passes
theorem dX11_passDays_0 : decode cX11_passDays 0 = .ok (.iconst 0, 1) := by decide +kernel
theorem dX11_passDays_1 : decode cX11_passDays 1 = .ok (.istore_n 2, 1) := by decide +kernel
theorem dX11_passDays_2 : decode cX11_passDays 2 = .ok (.iload_n 2, 1) := by decide +kernel
theorem dX11_passDays_3 : decode cX11_passDays 3 = .ok (.iload_n 1, 1) := by decide +kernel
theorem dX11_passDays_4 : decode cX11_passDays 4 = .ok (.if_icmp .ge 43, 3) := by decide +kernel
theorem dX11_passDays_7 : decode cX11_passDays 7 = .ok (.aload_n 0, 1) := by decide +kernel
theorem dX11_passDays_8 : decode cX11_passDays 8 = .ok (.getfield 40, 3) := by decide +kernel
theorem dX11_passDays_11 : decode cX11_passDays 11 = .ok (.invokevirtual 235, 3) := by decide +kernel
theorem dX11_passDays_14 : decode cX11_passDays 14 = .ok (.ifCond .eq 33, 3) := by decide +kernel
theorem dX11_passDays_17 : decode cX11_passDays 17 = .ok (.aload_n 0, 1) := by decide +kernel
theorem dX11_passDays_18 : decode cX11_passDays 18 = .ok (.getfield 10, 3) := by decide +kernel
theorem dX11_passDays_21 : decode cX11_passDays 21 = .ok (.getfield 134, 3) := by decide +kernel
theorem dX11_passDays_24 : decode cX11_passDays 24 = .ok (.aload_n 0, 1) := by decide +kernel
theorem dX11_passDays_25 : decode cX11_passDays 25 = .ok (.getfield 10, 3) := by decide +kernel
theorem dX11_passDays_28 : decode cX11_passDays 28 = .ok (.getfield 138, 3) := by decide +kernel
theorem dX11_passDays_31 : decode cX11_passDays 31 = .ok (.invokevirtual 141, 3) := by decide +kernel
theorem dX11_passDays_34 : decode cX11_passDays 34 = .ok (.aload_n 0, 1) := by decide +kernel
theorem dX11_passDays_35 : decode cX11_passDays 35 = .ok (.getfield 40, 3) := by decide +kernel
theorem dX11_passDays_38 : decode cX11_passDays 38 = .ok (.invokevirtual 238, 3) := by decide +kernel
theorem dX11_passDays_41 : decode cX11_passDays 41 = .ok (.iinc 2 1, 3) := by decide +kernel
theorem dX11_passDays_44 : decode cX11_passDays 44 = .ok (.goto (-42), 3) := by decide +kernel
theorem dX11_passDays_47 : decode cX11_passDays 47 = .ok (.iload_n 2, 1) := by decide +kernel
theorem dX11_passDays_48 : decode cX11_passDays 48 = .ok (.ireturn, 1) := by decide +kernel
set_option maxRecDepth 20000 in
theorem ggX11_playClause_X9_numberOf : GoodIn wsX11_playClause wsX9_numberOf := goodIn_r _ [5, 6, 7, 8, 9, 277, 278, 279, 280] rfl (by decide +kernel)
set_option maxRecDepth 20000 in
theorem gX11_playClause_X9_numberOf : GoodIn wsX11_playClause (wsV RX11 358 RX9 yX9_numberOf wsX9_numberOf) := goodIn_app (goodIn_of _ (by decide +kernel)) ggX11_playClause_X9_numberOf
set_option maxRecDepth 20000 in
theorem ggX11_playClause_X11_house : GoodIn wsX11_playClause wsX11_house := goodIn_r _ [13, 14, 15, 16, 8, 17, 18, 19, 20, 21, 22, 23, 24, 7, 9, 25, 26, 27, 28, 29, 30, 281, 282, 283, 284, 285, 286, 287, 288, 289, 290, 291, 292, 293, 294, 295, 296, 297, 298, 299, 300, 301, 302, 303, 304, 305] rfl (by decide +kernel)
set_option maxRecDepth 20000 in
theorem gX11_playClause_X11_house : GoodIn wsX11_playClause (wsV RX11 361 RX11 yX11_house wsX11_house) := goodIn_app (goodIn_of _ (by decide +kernel)) ggX11_playClause_X11_house
set_option maxRecDepth 20000 in
theorem ggX11_playClause_X11_clown : GoodIn wsX11_playClause wsX11_clown := goodIn_r _ [34, 14, 15, 16, 8, 17, 35, 36, 37, 21, 38, 23, 39, 40, 7, 9, 25, 26, 27, 28, 29, 30, 281, 282, 283, 284, 285, 286, 287, 288, 289, 290, 291, 292, 293, 294, 295, 296, 297, 298, 299, 300, 301, 302, 303, 304, 305] rfl (by decide +kernel)
set_option maxRecDepth 20000 in
theorem gX11_playClause_X11_clown : GoodIn wsX11_playClause (wsV RX11 364 RX11 yX11_clown wsX11_clown) := goodIn_app (goodIn_of _ (by decide +kernel)) ggX11_playClause_X11_clown
set_option maxRecDepth 20000 in
theorem ggX11_playClause_X11_mood : GoodIn wsX11_playClause wsX11_mood := goodIn_r _ [44, 14, 45, 46, 47, 8, 48, 15, 16, 17, 49, 50, 51, 52, 25, 26, 281, 282, 283, 284, 285, 286, 287, 288, 289, 290, 291, 292, 293, 294, 295, 296, 297, 298, 299, 300, 301, 302, 303, 304, 305] rfl (by decide +kernel)
set_option maxRecDepth 20000 in
theorem gX11_playClause_X11_mood : GoodIn wsX11_playClause (wsV RX11 367 RX11 yX11_mood wsX11_mood) := goodIn_app (goodIn_of _ (by decide +kernel)) ggX11_playClause_X11_mood
set_option maxRecDepth 20000 in
theorem ggX11_playClause_X11_send : GoodIn wsX11_playClause wsX11_send := goodIn_r _ [56, 57, 14, 58, 59, 60, 61, 62, 63, 64, 65, 66, 67, 68, 21, 69, 23, 7, 8, 9, 70, 71, 72, 73, 74, 75, 76, 77, 78, 79, 80, 81, 82, 83, 84, 85, 86, 87, 88, 89, 90, 91, 92, 93, 94, 95, 96, 97, 98, 99, 100, 28, 29, 30, 25, 26, 281, 282, 283, 284, 285, 286, 287, 288, 289, 290, 291, 292, 293, 294, 295, 296, 297, 298, 299, 300, 301, 302, 303, 304, 305, 306, 307, 308, 309, 310, 311] rfl (by decide +kernel)
set_option maxRecDepth 20000 in
theorem gX11_playClause_X11_send : GoodIn wsX11_playClause (wsV RX11 370 RX11 yX11_send wsX11_send) := goodIn_app (goodIn_of _ (by decide +kernel)) ggX11_playClause_X11_send
set_option maxRecDepth 20000 in
theorem ggX11_playClause_X11_fall : GoodIn wsX11_playClause wsX11_fall := goodIn_r _ [104, 57, 14, 58, 59, 105, 106, 107, 63, 108, 65, 47, 8, 48, 15, 16, 17, 109, 110, 111, 21, 112, 113, 67, 68, 69, 23, 7, 9, 114, 75, 76, 77, 74, 78, 79, 80, 81, 82, 83, 84, 85, 86, 87, 88, 89, 90, 91, 92, 93, 94, 95, 115, 116, 117, 118, 119, 120, 121, 122, 123, 124, 125, 126, 127, 128, 129, 130, 131, 132, 133, 134, 135, 136, 137, 138, 139, 140, 4, 141, 142, 143, 144, 145, 146, 147, 148, 149, 150, 151, 152, 153, 154, 155, 156, 157, 158, 159, 160, 161, 25, 26, 162, 163, 164, 165, 166, 167, 168, 169, 170, 171, 172, 173, 174, 175, 176, 177, 178, 179, 180, 181, 182, 183, 184, 185, 186, 187, 188, 189, 190, 191, 192, 193, 194, 195, 196, 197, 198, 199, 200, 201, 202, 203, 204, 205, 206, 207, 208, 209, 100, 28, 29, 30, 210, 211, 212, 213, 214, 215, 216, 217, 218, 219, 220, 221, 222, 223, 224, 225, 226, 227, 27, 228, 281, 282, 283, 284, 285, 286, 287, 288, 289, 290, 291, 292, 293, 294, 295, 296, 297, 298, 299, 300, 301, 302, 303, 304, 305, 306, 307, 308, 309, 310, 311, 312, 313, 314, 315, 277, 278, 279, 280] rfl (by decide +kernel)
set_option maxRecDepth 20000 in
theorem gX11_playClause_X11_fall : GoodIn wsX11_playClause (wsV RX11 373 RX11 yX11_fall wsX11_fall) := goodIn_app (goodIn_of _ (by decide +kernel)) ggX11_playClause_X11_fall
set_option maxRecDepth 20000 in
theorem ggX11_playClause_X11_rest : GoodIn wsX11_playClause wsX11_rest := goodIn_r _ [232, 57, 14, 58, 59, 233, 234, 235, 63, 236, 65, 109, 110, 111, 21, 112, 113, 67, 68, 69, 23, 7, 8, 9, 114, 75, 76, 77, 78, 79, 80, 81, 82, 83, 84, 85, 86, 87, 88, 89, 90, 91, 92, 93, 94, 95, 96, 97, 98, 99, 100, 28, 29, 30, 25, 26, 281, 282, 283, 284, 285, 286, 287, 288, 289, 290, 291, 292, 293, 294, 295, 296, 297, 298, 299, 300, 301, 302, 303, 304, 305, 306, 307, 308, 309, 310, 311] rfl (by decide +kernel)
set_option maxRecDepth 20000 in
theorem gX11_playClause_X11_rest : GoodIn wsX11_playClause (wsV RX11 376 RX11 yX11_rest wsX11_rest) := goodIn_app (goodIn_of _ (by decide +kernel)) ggX11_playClause_X11_rest
set_option maxRecDepth 20000 in
theorem ggX11_playClause_X11_passDays : GoodIn wsX11_playClause wsX11_passDays := goodIn_r _ [240, 57, 14, 58, 59, 241, 242, 243, 63, 244, 65, 245, 159, 160, 21, 161, 23, 7, 8, 9, 78, 79, 80, 81, 82, 83, 84, 85, 86, 87, 88, 89, 90, 91, 92, 93, 94, 95, 246, 247, 248, 249, 119, 250, 120, 121, 122, 123, 207, 208, 209, 251, 252, 253, 254, 255, 256, 133, 134, 135, 136, 137, 257, 258, 259, 127, 260, 129, 156, 261, 262, 263, 264, 265, 266, 267, 268, 114, 75, 76, 77, 269, 270, 271, 272, 273, 274, 275, 138, 139, 140, 4, 141, 142, 143, 144, 145, 146, 147, 148, 149, 150, 152, 153, 154, 155, 157, 158, 25, 26, 151, 167, 168, 169, 170, 171, 172, 173, 174, 175, 176, 177, 178, 179, 180, 181, 182, 183, 184, 185, 186, 187, 188, 189, 190, 191, 192, 193, 194, 195, 196, 197, 198, 199, 200, 201, 202, 74, 100, 28, 29, 30, 276, 109, 110, 111, 112, 113, 67, 68, 69, 281, 282, 283, 284, 285, 286, 287, 288, 289, 290, 291, 292, 293, 294, 295, 296, 297, 298, 299, 300, 301, 302, 303, 304, 305, 306, 307, 308, 309, 310, 311, 312, 313, 314, 315, 277, 278, 279, 280] rfl (by decide +kernel)
set_option maxRecDepth 20000 in
theorem gX11_playClause_X11_passDays : GoodIn wsX11_playClause (wsV RX11 167 RX11 yX11_passDays wsX11_passDays) := goodIn_app (goodIn_of _ (by decide +kernel)) ggX11_playClause_X11_passDays
theorem dX11_playClause_0 : decode cX11_playClause 0 = .ok (.aload_n 1, 1) := by decide +kernel
theorem dX11_playClause_1 : decode cX11_playClause 1 = .ok (.iload_n 2, 1) := by decide +kernel
theorem dX11_playClause_2 : decode cX11_playClause 2 = .ok (.iconst 1, 1) := by decide +kernel
theorem dX11_playClause_3 : decode cX11_playClause 3 = .ok (.invokevirtual 358, 3) := by decide +kernel
theorem dX11_playClause_6 : decode cX11_playClause 6 = .ok (.istore_n 3, 1) := by decide +kernel
theorem dX11_playClause_7 : decode cX11_playClause 7 = .ok (.aload_n 1, 1) := by decide +kernel
theorem dX11_playClause_8 : decode cX11_playClause 8 = .ok (.iload_n 2, 1) := by decide +kernel
theorem dX11_playClause_9 : decode cX11_playClause 9 = .ok (.iconst 2, 1) := by decide +kernel
theorem dX11_playClause_10 : decode cX11_playClause 10 = .ok (.invokevirtual 358, 3) := by decide +kernel
theorem dX11_playClause_13 : decode cX11_playClause 13 = .ok (.istore 4, 2) := by decide +kernel
theorem dX11_playClause_15 : decode cX11_playClause 15 = .ok (.aload_n 1, 1) := by decide +kernel
theorem dX11_playClause_16 : decode cX11_playClause 16 = .ok (.iload_n 2, 1) := by decide +kernel
theorem dX11_playClause_17 : decode cX11_playClause 17 = .ok (.iconst 3, 1) := by decide +kernel
theorem dX11_playClause_18 : decode cX11_playClause 18 = .ok (.invokevirtual 358, 3) := by decide +kernel
theorem dX11_playClause_21 : decode cX11_playClause 21 = .ok (.istore 5, 2) := by decide +kernel
theorem dX11_playClause_23 : decode cX11_playClause 23 = .ok (.aload_n 1, 1) := by decide +kernel
theorem dX11_playClause_24 : decode cX11_playClause 24 = .ok (.iload_n 2, 1) := by decide +kernel
theorem dX11_playClause_25 : decode cX11_playClause 25 = .ok (.iconst 0, 1) := by decide +kernel
theorem dX11_playClause_26 : decode cX11_playClause 26 = .ok (.invokevirtual 358, 3) := by decide +kernel
theorem dX11_playClause_29 : decode cX11_playClause 29 = .ok (.tableswitch 177 0 17 #[162, 177, 177, 121, 177, 87, 177, 177, 177, 139, 177, 177, 177, 177, 177, 104, 131, 156], 87) := by decide +kernel
theorem dX11_playClause_116 : decode cX11_playClause 116 = .ok (.aload_n 0, 1) := by decide +kernel
theorem dX11_playClause_117 : decode cX11_playClause 117 = .ok (.iload_n 3, 1) := by decide +kernel
theorem dX11_playClause_118 : decode cX11_playClause 118 = .ok (.iload 4, 2) := by decide +kernel
theorem dX11_playClause_120 : decode cX11_playClause 120 = .ok (.invokevirtual 361, 3) := by decide +kernel
theorem dX11_playClause_123 : decode cX11_playClause 123 = .ok (.iconst (-1), 1) := by decide +kernel
theorem dX11_playClause_124 : decode cX11_playClause 124 = .ok (.if_icmp .eq 7, 3) := by decide +kernel
theorem dX11_playClause_127 : decode cX11_playClause 127 = .ok (.iconst 1, 1) := by decide +kernel
theorem dX11_playClause_128 : decode cX11_playClause 128 = .ok (.goto 4, 3) := by decide +kernel
theorem dX11_playClause_131 : decode cX11_playClause 131 = .ok (.iconst 0, 1) := by decide +kernel
theorem dX11_playClause_132 : decode cX11_playClause 132 = .ok (.ireturn, 1) := by decide +kernel
theorem dX11_playClause_133 : decode cX11_playClause 133 = .ok (.aload_n 0, 1) := by decide +kernel
theorem dX11_playClause_134 : decode cX11_playClause 134 = .ok (.iload_n 3, 1) := by decide +kernel
theorem dX11_playClause_135 : decode cX11_playClause 135 = .ok (.iload 4, 2) := by decide +kernel
theorem dX11_playClause_137 : decode cX11_playClause 137 = .ok (.invokevirtual 364, 3) := by decide +kernel
theorem dX11_playClause_140 : decode cX11_playClause 140 = .ok (.iconst (-1), 1) := by decide +kernel
theorem dX11_playClause_141 : decode cX11_playClause 141 = .ok (.if_icmp .eq 7, 3) := by decide +kernel
theorem dX11_playClause_144 : decode cX11_playClause 144 = .ok (.iconst 1, 1) := by decide +kernel
theorem dX11_playClause_145 : decode cX11_playClause 145 = .ok (.goto 4, 3) := by decide +kernel
theorem dX11_playClause_148 : decode cX11_playClause 148 = .ok (.iconst 0, 1) := by decide +kernel
theorem dX11_playClause_149 : decode cX11_playClause 149 = .ok (.ireturn, 1) := by decide +kernel
theorem dX11_playClause_150 : decode cX11_playClause 150 = .ok (.aload_n 0, 1) := by decide +kernel
theorem dX11_playClause_151 : decode cX11_playClause 151 = .ok (.iload 4, 2) := by decide +kernel
theorem dX11_playClause_153 : decode cX11_playClause 153 = .ok (.iload_n 3, 1) := by decide +kernel
theorem dX11_playClause_154 : decode cX11_playClause 154 = .ok (.iload 5, 2) := by decide +kernel
theorem dX11_playClause_156 : decode cX11_playClause 156 = .ok (.invokevirtual 367, 3) := by decide +kernel
theorem dX11_playClause_159 : decode cX11_playClause 159 = .ok (.ireturn, 1) := by decide +kernel
theorem dX11_playClause_160 : decode cX11_playClause 160 = .ok (.aload_n 0, 1) := by decide +kernel
theorem dX11_playClause_161 : decode cX11_playClause 161 = .ok (.iload_n 3, 1) := by decide +kernel
theorem dX11_playClause_162 : decode cX11_playClause 162 = .ok (.iload 4, 2) := by decide +kernel
theorem dX11_playClause_164 : decode cX11_playClause 164 = .ok (.invokevirtual 370, 3) := by decide +kernel
theorem dX11_playClause_167 : decode cX11_playClause 167 = .ok (.ireturn, 1) := by decide +kernel
theorem dX11_playClause_168 : decode cX11_playClause 168 = .ok (.aload_n 0, 1) := by decide +kernel
theorem dX11_playClause_169 : decode cX11_playClause 169 = .ok (.iload 4, 2) := by decide +kernel
theorem dX11_playClause_171 : decode cX11_playClause 171 = .ok (.iload_n 3, 1) := by decide +kernel
theorem dX11_playClause_172 : decode cX11_playClause 172 = .ok (.invokevirtual 373, 3) := by decide +kernel
theorem dX11_playClause_175 : decode cX11_playClause 175 = .ok (.iconst (-1), 1) := by decide +kernel
theorem dX11_playClause_176 : decode cX11_playClause 176 = .ok (.if_icmp .eq 7, 3) := by decide +kernel
theorem dX11_playClause_179 : decode cX11_playClause 179 = .ok (.iconst 1, 1) := by decide +kernel
theorem dX11_playClause_180 : decode cX11_playClause 180 = .ok (.goto 4, 3) := by decide +kernel
theorem dX11_playClause_183 : decode cX11_playClause 183 = .ok (.iconst 0, 1) := by decide +kernel
theorem dX11_playClause_184 : decode cX11_playClause 184 = .ok (.ireturn, 1) := by decide +kernel
theorem dX11_playClause_185 : decode cX11_playClause 185 = .ok (.aload_n 0, 1) := by decide +kernel
theorem dX11_playClause_186 : decode cX11_playClause 186 = .ok (.iload_n 3, 1) := by decide +kernel
theorem dX11_playClause_187 : decode cX11_playClause 187 = .ok (.invokevirtual 376, 3) := by decide +kernel
theorem dX11_playClause_190 : decode cX11_playClause 190 = .ok (.ireturn, 1) := by decide +kernel
theorem dX11_playClause_191 : decode cX11_playClause 191 = .ok (.aload_n 0, 1) := by decide +kernel
theorem dX11_playClause_192 : decode cX11_playClause 192 = .ok (.iload_n 3, 1) := by decide +kernel
theorem dX11_playClause_193 : decode cX11_playClause 193 = .ok (.invokevirtual 167, 3) := by decide +kernel
theorem dX11_playClause_196 : decode cX11_playClause 196 = .ok (.iload_n 3, 1) := by decide +kernel
theorem dX11_playClause_197 : decode cX11_playClause 197 = .ok (.if_icmp .ne 7, 3) := by decide +kernel
theorem dX11_playClause_200 : decode cX11_playClause 200 = .ok (.iconst 1, 1) := by decide +kernel
theorem dX11_playClause_201 : decode cX11_playClause 201 = .ok (.goto 4, 3) := by decide +kernel
theorem dX11_playClause_204 : decode cX11_playClause 204 = .ok (.iconst 0, 1) := by decide +kernel
theorem dX11_playClause_205 : decode cX11_playClause 205 = .ok (.ireturn, 1) := by decide +kernel
theorem dX11_playClause_206 : decode cX11_playClause 206 = .ok (.iconst 1, 1) := by decide +kernel
theorem dX11_playClause_207 : decode cX11_playClause 207 = .ok (.ireturn, 1) := by decide +kernel
set_option maxRecDepth 20000 in
theorem ggX11_growsAsTold_X11_at : GoodIn wsX11_growsAsTold wsX11_at := goodIn_r _ [8] rfl (by decide +kernel)
set_option maxRecDepth 20000 in
theorem gX11_growsAsTold_X11_at : GoodIn wsX11_growsAsTold (va_wsS RX11 203 yX11_at wsX11_at) := goodIn_app (goodIn_of _ (by decide +kernel)) ggX11_growsAsTold_X11_at
set_option maxRecDepth 20000 in
theorem ggX11_growsAsTold_X3_growing : GoodIn wsX11_growsAsTold wsX3_growing := goodIn_r _ [13, 14, 15, 16, 17, 18, 19, 20, 21, 22, 23, 24, 25, 26, 27, 28, 29, 6, 7, 8, 30, 31, 32, 33, 34, 35, 36, 37, 38, 39, 40, 41, 42, 43, 44, 45, 46, 47, 48, 49, 50, 51, 52, 53, 54, 55, 56, 57, 12, 58, 59, 60, 61, 62, 63, 64, 65, 66, 67, 68, 69, 70, 71, 72, 73, 74, 75, 76, 77, 78, 79, 80, 81, 82, 83, 84, 85, 86, 87, 88, 89, 90, 91, 92, 93, 94, 95, 96, 97, 98, 99, 100, 101, 102, 128, 129, 130, 131, 112, 113, 114, 115, 116, 117, 118, 119, 120, 121, 122, 123, 124, 125, 126, 127, 132, 133, 134, 135] rfl (by decide +kernel)
set_option maxRecDepth 20000 in
theorem gX11_growsAsTold_X3_growing : GoodIn wsX11_growsAsTold (wsV RX11 207 RX3 yX3_growing wsX3_growing) := goodIn_app (goodIn_of _ (by decide +kernel)) ggX11_growsAsTold_X3_growing
theorem dX11_growsAsTold_0 : decode cX11_growsAsTold 0 = .ok (.iconst 0, 1) := by decide +kernel
theorem dX11_growsAsTold_1 : decode cX11_growsAsTold 1 = .ok (.istore_n 2, 1) := by decide +kernel
theorem dX11_growsAsTold_2 : decode cX11_growsAsTold 2 = .ok (.iload_n 2, 1) := by decide +kernel
theorem dX11_growsAsTold_3 : decode cX11_growsAsTold 3 = .ok (.aload_n 0, 1) := by decide +kernel
theorem dX11_growsAsTold_4 : decode cX11_growsAsTold 4 = .ok (.getfield 10, 3) := by decide +kernel
theorem dX11_growsAsTold_7 : decode cX11_growsAsTold 7 = .ok (.getfield 336, 3) := by decide +kernel
theorem dX11_growsAsTold_10 : decode cX11_growsAsTold 10 = .ok (.if_icmp .ge 42, 3) := by decide +kernel
theorem dX11_growsAsTold_13 : decode cX11_growsAsTold 13 = .ok (.aload_n 0, 1) := by decide +kernel
theorem dX11_growsAsTold_14 : decode cX11_growsAsTold 14 = .ok (.getfield 10, 3) := by decide +kernel
theorem dX11_growsAsTold_17 : decode cX11_growsAsTold 17 = .ok (.getfield 339, 3) := by decide +kernel
theorem dX11_growsAsTold_20 : decode cX11_growsAsTold 20 = .ok (.iload_n 2, 1) := by decide +kernel
theorem dX11_growsAsTold_21 : decode cX11_growsAsTold 21 = .ok (.invokestatic 203, 3) := by decide +kernel
theorem dX11_growsAsTold_24 : decode cX11_growsAsTold 24 = .ok (.istore_n 3, 1) := by decide +kernel
theorem dX11_growsAsTold_25 : decode cX11_growsAsTold 25 = .ok (.aload_n 0, 1) := by decide +kernel
theorem dX11_growsAsTold_26 : decode cX11_growsAsTold 26 = .ok (.getfield 31, 3) := by decide +kernel
theorem dX11_growsAsTold_29 : decode cX11_growsAsTold 29 = .ok (.aload_n 1, 1) := by decide +kernel
theorem dX11_growsAsTold_30 : decode cX11_growsAsTold 30 = .ok (.iload_n 3, 1) := by decide +kernel
theorem dX11_growsAsTold_31 : decode cX11_growsAsTold 31 = .ok (.bipush 10, 2) := by decide +kernel
theorem dX11_growsAsTold_33 : decode cX11_growsAsTold 33 = .ok (.idiv, 1) := by decide +kernel
theorem dX11_growsAsTold_34 : decode cX11_growsAsTold 34 = .ok (.invokevirtual 207, 3) := by decide +kernel
theorem dX11_growsAsTold_37 : decode cX11_growsAsTold 37 = .ok (.iload_n 3, 1) := by decide +kernel
theorem dX11_growsAsTold_38 : decode cX11_growsAsTold 38 = .ok (.bipush 10, 2) := by decide +kernel
theorem dX11_growsAsTold_40 : decode cX11_growsAsTold 40 = .ok (.irem, 1) := by decide +kernel
theorem dX11_growsAsTold_41 : decode cX11_growsAsTold 41 = .ok (.if_icmp .eq 5, 3) := by decide +kernel
theorem dX11_growsAsTold_44 : decode cX11_growsAsTold 44 = .ok (.iconst 0, 1) := by decide +kernel
theorem dX11_growsAsTold_45 : decode cX11_growsAsTold 45 = .ok (.ireturn, 1) := by decide +kernel
theorem dX11_growsAsTold_46 : decode cX11_growsAsTold 46 = .ok (.iinc 2 1, 3) := by decide +kernel
theorem dX11_growsAsTold_49 : decode cX11_growsAsTold 49 = .ok (.goto (-47), 3) := by decide +kernel
theorem dX11_growsAsTold_52 : decode cX11_growsAsTold 52 = .ok (.iconst 1, 1) := by decide +kernel
theorem dX11_growsAsTold_53 : decode cX11_growsAsTold 53 = .ok (.ireturn, 1) := by decide +kernel
set_option maxRecDepth 20000 in
theorem ggX11_lowestLesson_X11_canLearn : GoodIn wsX11_lowestLesson wsX11_canLearn := goodIn_r _ [6, 7, 8, 5, 9] rfl (by decide +kernel)
set_option maxRecDepth 20000 in
theorem gX11_lowestLesson_X11_canLearn : GoodIn wsX11_lowestLesson (va_wsS RX11 379 yX11_canLearn wsX11_canLearn) := goodIn_app (goodIn_of _ (by decide +kernel)) ggX11_lowestLesson_X11_canLearn
theorem dX11_lowestLesson_0 : decode cX11_lowestLesson 0 = .ok (.iconst 0, 1) := by decide +kernel
theorem dX11_lowestLesson_1 : decode cX11_lowestLesson 1 = .ok (.istore_n 2, 1) := by decide +kernel
theorem dX11_lowestLesson_2 : decode cX11_lowestLesson 2 = .ok (.iconst (-1), 1) := by decide +kernel
theorem dX11_lowestLesson_3 : decode cX11_lowestLesson 3 = .ok (.istore_n 3, 1) := by decide +kernel
theorem dX11_lowestLesson_4 : decode cX11_lowestLesson 4 = .ok (.iconst 0, 1) := by decide +kernel
theorem dX11_lowestLesson_5 : decode cX11_lowestLesson 5 = .ok (.istore 4, 2) := by decide +kernel
theorem dX11_lowestLesson_7 : decode cX11_lowestLesson 7 = .ok (.iload 4, 2) := by decide +kernel
theorem dX11_lowestLesson_9 : decode cX11_lowestLesson 9 = .ok (.iload_n 1, 1) := by decide +kernel
theorem dX11_lowestLesson_10 : decode cX11_lowestLesson 10 = .ok (.if_icmp .gt 59, 3) := by decide +kernel
theorem dX11_lowestLesson_13 : decode cX11_lowestLesson 13 = .ok (.iconst (-1), 1) := by decide +kernel
theorem dX11_lowestLesson_14 : decode cX11_lowestLesson 14 = .ok (.istore_n 3, 1) := by decide +kernel
theorem dX11_lowestLesson_15 : decode cX11_lowestLesson 15 = .ok (.iconst 4, 1) := by decide +kernel
theorem dX11_lowestLesson_16 : decode cX11_lowestLesson 16 = .ok (.istore 5, 2) := by decide +kernel
theorem dX11_lowestLesson_18 : decode cX11_lowestLesson 18 = .ok (.iload 5, 2) := by decide +kernel
theorem dX11_lowestLesson_20 : decode cX11_lowestLesson 20 = .ok (.ifCond .lt 28, 3) := by decide +kernel
theorem dX11_lowestLesson_23 : decode cX11_lowestLesson 23 = .ok (.aload_n 0, 1) := by decide +kernel
theorem dX11_lowestLesson_24 : decode cX11_lowestLesson 24 = .ok (.getfield 10, 3) := by decide +kernel
theorem dX11_lowestLesson_27 : decode cX11_lowestLesson 27 = .ok (.getfield 327, 3) := by decide +kernel
theorem dX11_lowestLesson_30 : decode cX11_lowestLesson 30 = .ok (.iload_n 2, 1) := by decide +kernel
theorem dX11_lowestLesson_31 : decode cX11_lowestLesson 31 = .ok (.iload 5, 2) := by decide +kernel
theorem dX11_lowestLesson_33 : decode cX11_lowestLesson 33 = .ok (.invokestatic 379, 3) := by decide +kernel
theorem dX11_lowestLesson_36 : decode cX11_lowestLesson 36 = .ok (.ifCond .eq 6, 3) := by decide +kernel
theorem dX11_lowestLesson_39 : decode cX11_lowestLesson 39 = .ok (.iload 5, 2) := by decide +kernel
theorem dX11_lowestLesson_41 : decode cX11_lowestLesson 41 = .ok (.istore_n 3, 1) := by decide +kernel
theorem dX11_lowestLesson_42 : decode cX11_lowestLesson 42 = .ok (.iinc 5 (-1), 3) := by decide +kernel
theorem dX11_lowestLesson_45 : decode cX11_lowestLesson 45 = .ok (.goto (-27), 3) := by decide +kernel
theorem dX11_lowestLesson_48 : decode cX11_lowestLesson 48 = .ok (.iload_n 2, 1) := by decide +kernel
theorem dX11_lowestLesson_49 : decode cX11_lowestLesson 49 = .ok (.iload_n 3, 1) := by decide +kernel
theorem dX11_lowestLesson_50 : decode cX11_lowestLesson 50 = .ok (.iconst (-1), 1) := by decide +kernel
theorem dX11_lowestLesson_51 : decode cX11_lowestLesson 51 = .ok (.if_icmp .ne 7, 3) := by decide +kernel
theorem dX11_lowestLesson_54 : decode cX11_lowestLesson 54 = .ok (.iconst 0, 1) := by decide +kernel
theorem dX11_lowestLesson_55 : decode cX11_lowestLesson 55 = .ok (.goto 6, 3) := by decide +kernel
theorem dX11_lowestLesson_58 : decode cX11_lowestLesson 58 = .ok (.iconst 1, 1) := by decide +kernel
theorem dX11_lowestLesson_59 : decode cX11_lowestLesson 59 = .ok (.iload_n 3, 1) := by decide +kernel
theorem dX11_lowestLesson_60 : decode cX11_lowestLesson 60 = .ok (.ishl, 1) := by decide +kernel
theorem dX11_lowestLesson_61 : decode cX11_lowestLesson 61 = .ok (.ior, 1) := by decide +kernel
theorem dX11_lowestLesson_62 : decode cX11_lowestLesson 62 = .ok (.istore_n 2, 1) := by decide +kernel
theorem dX11_lowestLesson_63 : decode cX11_lowestLesson 63 = .ok (.iinc 4 1, 3) := by decide +kernel
theorem dX11_lowestLesson_66 : decode cX11_lowestLesson 66 = .ok (.goto (-59), 3) := by decide +kernel
theorem dX11_lowestLesson_69 : decode cX11_lowestLesson 69 = .ok (.iload_n 3, 1) := by decide +kernel
theorem dX11_lowestLesson_70 : decode cX11_lowestLesson 70 = .ok (.ireturn, 1) := by decide +kernel
set_option maxRecDepth 20000 in
theorem ggX11_canLearn_X11_at : GoodIn wsX11_canLearn wsX11_at := goodIn_r _ [4] rfl (by decide +kernel)
set_option maxRecDepth 20000 in
theorem gX11_canLearn_X11_at : GoodIn wsX11_canLearn (va_wsS RX11 203 yX11_at wsX11_at) := goodIn_app (goodIn_of _ (by decide +kernel)) ggX11_canLearn_X11_at
theorem dX11_canLearn_0 : decode cX11_canLearn 0 = .ok (.iload_n 1, 1) := by decide +kernel
theorem dX11_canLearn_1 : decode cX11_canLearn 1 = .ok (.iload_n 2, 1) := by decide +kernel
theorem dX11_canLearn_2 : decode cX11_canLearn 2 = .ok (.ishr, 1) := by decide +kernel
theorem dX11_canLearn_3 : decode cX11_canLearn 3 = .ok (.iconst 1, 1) := by decide +kernel
theorem dX11_canLearn_4 : decode cX11_canLearn 4 = .ok (.iand, 1) := by decide +kernel
theorem dX11_canLearn_5 : decode cX11_canLearn 5 = .ok (.ifCond .ne 19, 3) := by decide +kernel
theorem dX11_canLearn_8 : decode cX11_canLearn 8 = .ok (.aload_n 0, 1) := by decide +kernel
theorem dX11_canLearn_9 : decode cX11_canLearn 9 = .ok (.iload_n 2, 1) := by decide +kernel
theorem dX11_canLearn_10 : decode cX11_canLearn 10 = .ok (.invokestatic 203, 3) := by decide +kernel
theorem dX11_canLearn_13 : decode cX11_canLearn 13 = .ok (.iload_n 1, 1) := by decide +kernel
theorem dX11_canLearn_14 : decode cX11_canLearn 14 = .ok (.iconst (-1), 1) := by decide +kernel
theorem dX11_canLearn_15 : decode cX11_canLearn 15 = .ok (.ixor, 1) := by decide +kernel
theorem dX11_canLearn_16 : decode cX11_canLearn 16 = .ok (.iand, 1) := by decide +kernel
theorem dX11_canLearn_17 : decode cX11_canLearn 17 = .ok (.ifCond .ne 7, 3) := by decide +kernel
theorem dX11_canLearn_20 : decode cX11_canLearn 20 = .ok (.iconst 1, 1) := by decide +kernel
theorem dX11_canLearn_21 : decode cX11_canLearn 21 = .ok (.goto 4, 3) := by decide +kernel
theorem dX11_canLearn_24 : decode cX11_canLearn 24 = .ok (.iconst 0, 1) := by decide +kernel
theorem dX11_canLearn_25 : decode cX11_canLearn 25 = .ok (.ireturn, 1) := by decide +kernel
set_option maxRecDepth 20000 in
theorem ggX11_ordersFrom_X11_canLearn : GoodIn wsX11_ordersFrom wsX11_canLearn := goodIn_r _ [4, 5, 6, 3, 7] rfl (by decide +kernel)
set_option maxRecDepth 20000 in
theorem gX11_ordersFrom_X11_canLearn : GoodIn wsX11_ordersFrom (va_wsS RX11 379 yX11_canLearn wsX11_canLearn) := goodIn_app (goodIn_of _ (by decide +kernel)) ggX11_ordersFrom_X11_canLearn
set_option maxRecDepth 20000 in
theorem ggX11_ordersFrom_X11_ordersFrom : GoodIn wsX11_ordersFrom wsX11_ordersFrom := goodIn_r _ [0, 1, 2, 3, 4, 5, 6, 7, 8, 9] rfl (by decide +kernel)
set_option maxRecDepth 20000 in
theorem gX11_ordersFrom_X11_ordersFrom : GoodIn wsX11_ordersFrom (va_wsS RX11 330 yX11_ordersFrom wsX11_ordersFrom) := goodIn_app (goodIn_of _ (by decide +kernel)) ggX11_ordersFrom_X11_ordersFrom
theorem dX11_ordersFrom_0 : decode cX11_ordersFrom 0 = .ok (.iload_n 1, 1) := by decide +kernel
theorem dX11_ordersFrom_1 : decode cX11_ordersFrom 1 = .ok (.bipush 31, 2) := by decide +kernel
theorem dX11_ordersFrom_3 : decode cX11_ordersFrom 3 = .ok (.if_icmp .ne 5, 3) := by decide +kernel
theorem dX11_ordersFrom_6 : decode cX11_ordersFrom 6 = .ok (.iconst 1, 1) := by decide +kernel
theorem dX11_ordersFrom_7 : decode cX11_ordersFrom 7 = .ok (.ireturn, 1) := by decide +kernel
theorem dX11_ordersFrom_8 : decode cX11_ordersFrom 8 = .ok (.iconst 0, 1) := by decide +kernel
theorem dX11_ordersFrom_9 : decode cX11_ordersFrom 9 = .ok (.istore_n 2, 1) := by decide +kernel
theorem dX11_ordersFrom_10 : decode cX11_ordersFrom 10 = .ok (.iconst 0, 1) := by decide +kernel
theorem dX11_ordersFrom_11 : decode cX11_ordersFrom 11 = .ok (.istore_n 3, 1) := by decide +kernel
theorem dX11_ordersFrom_12 : decode cX11_ordersFrom 12 = .ok (.iload_n 3, 1) := by decide +kernel
theorem dX11_ordersFrom_13 : decode cX11_ordersFrom 13 = .ok (.iconst 5, 1) := by decide +kernel
theorem dX11_ordersFrom_14 : decode cX11_ordersFrom 14 = .ok (.if_icmp .ge 30, 3) := by decide +kernel
theorem dX11_ordersFrom_17 : decode cX11_ordersFrom 17 = .ok (.aload_n 0, 1) := by decide +kernel
theorem dX11_ordersFrom_18 : decode cX11_ordersFrom 18 = .ok (.iload_n 1, 1) := by decide +kernel
theorem dX11_ordersFrom_19 : decode cX11_ordersFrom 19 = .ok (.iload_n 3, 1) := by decide +kernel
theorem dX11_ordersFrom_20 : decode cX11_ordersFrom 20 = .ok (.invokestatic 379, 3) := by decide +kernel
theorem dX11_ordersFrom_23 : decode cX11_ordersFrom 23 = .ok (.ifCond .eq 15, 3) := by decide +kernel
theorem dX11_ordersFrom_26 : decode cX11_ordersFrom 26 = .ok (.iload_n 2, 1) := by decide +kernel
theorem dX11_ordersFrom_27 : decode cX11_ordersFrom 27 = .ok (.aload_n 0, 1) := by decide +kernel
theorem dX11_ordersFrom_28 : decode cX11_ordersFrom 28 = .ok (.iload_n 1, 1) := by decide +kernel
theorem dX11_ordersFrom_29 : decode cX11_ordersFrom 29 = .ok (.iconst 1, 1) := by decide +kernel
theorem dX11_ordersFrom_30 : decode cX11_ordersFrom 30 = .ok (.iload_n 3, 1) := by decide +kernel
theorem dX11_ordersFrom_31 : decode cX11_ordersFrom 31 = .ok (.ishl, 1) := by decide +kernel
theorem dX11_ordersFrom_32 : decode cX11_ordersFrom 32 = .ok (.ior, 1) := by decide +kernel
theorem dX11_ordersFrom_33 : decode cX11_ordersFrom 33 = .ok (.invokestatic 330, 3) := by decide +kernel
theorem dX11_ordersFrom_36 : decode cX11_ordersFrom 36 = .ok (.iadd, 1) := by decide +kernel
theorem dX11_ordersFrom_37 : decode cX11_ordersFrom 37 = .ok (.istore_n 2, 1) := by decide +kernel
theorem dX11_ordersFrom_38 : decode cX11_ordersFrom 38 = .ok (.iinc 3 1, 3) := by decide +kernel
theorem dX11_ordersFrom_41 : decode cX11_ordersFrom 41 = .ok (.goto (-29), 3) := by decide +kernel
theorem dX11_ordersFrom_44 : decode cX11_ordersFrom 44 = .ok (.iload_n 2, 1) := by decide +kernel
theorem dX11_ordersFrom_45 : decode cX11_ordersFrom 45 = .ok (.ireturn, 1) := by decide +kernel
theorem dX11_inLowestTerms_0 : decode cX11_inLowestTerms 0 = .ok (.iload_n 0, 1) := by decide +kernel
theorem dX11_inLowestTerms_1 : decode cX11_inLowestTerms 1 = .ok (.invokestatic 304, 3) := by decide +kernel
theorem dX11_inLowestTerms_4 : decode cX11_inLowestTerms 4 = .ok (.istore_n 3, 1) := by decide +kernel
theorem dX11_inLowestTerms_5 : decode cX11_inLowestTerms 5 = .ok (.iload_n 1, 1) := by decide +kernel
theorem dX11_inLowestTerms_6 : decode cX11_inLowestTerms 6 = .ok (.istore 4, 2) := by decide +kernel
theorem dX11_inLowestTerms_8 : decode cX11_inLowestTerms 8 = .ok (.iconst 0, 1) := by decide +kernel
theorem dX11_inLowestTerms_9 : decode cX11_inLowestTerms 9 = .ok (.istore 5, 2) := by decide +kernel
theorem dX11_inLowestTerms_11 : decode cX11_inLowestTerms 11 = .ok (.iload 5, 2) := by decide +kernel
theorem dX11_inLowestTerms_13 : decode cX11_inLowestTerms 13 = .ok (.bipush 100, 2) := by decide +kernel
theorem dX11_inLowestTerms_15 : decode cX11_inLowestTerms 15 = .ok (.if_icmp .ge 27, 3) := by decide +kernel
theorem dX11_inLowestTerms_18 : decode cX11_inLowestTerms 18 = .ok (.iload 4, 2) := by decide +kernel
theorem dX11_inLowestTerms_20 : decode cX11_inLowestTerms 20 = .ok (.ifCond .eq 22, 3) := by decide +kernel
theorem dX11_inLowestTerms_23 : decode cX11_inLowestTerms 23 = .ok (.iload_n 3, 1) := by decide +kernel
theorem dX11_inLowestTerms_24 : decode cX11_inLowestTerms 24 = .ok (.iload 4, 2) := by decide +kernel
theorem dX11_inLowestTerms_26 : decode cX11_inLowestTerms 26 = .ok (.irem, 1) := by decide +kernel
theorem dX11_inLowestTerms_27 : decode cX11_inLowestTerms 27 = .ok (.istore 6, 2) := by decide +kernel
theorem dX11_inLowestTerms_29 : decode cX11_inLowestTerms 29 = .ok (.iload 4, 2) := by decide +kernel
theorem dX11_inLowestTerms_31 : decode cX11_inLowestTerms 31 = .ok (.istore_n 3, 1) := by decide +kernel
theorem dX11_inLowestTerms_32 : decode cX11_inLowestTerms 32 = .ok (.iload 6, 2) := by decide +kernel
theorem dX11_inLowestTerms_34 : decode cX11_inLowestTerms 34 = .ok (.istore 4, 2) := by decide +kernel
theorem dX11_inLowestTerms_36 : decode cX11_inLowestTerms 36 = .ok (.iinc 5 1, 3) := by decide +kernel
theorem dX11_inLowestTerms_39 : decode cX11_inLowestTerms 39 = .ok (.goto (-28), 3) := by decide +kernel
theorem dX11_inLowestTerms_42 : decode cX11_inLowestTerms 42 = .ok (.iload_n 3, 1) := by decide +kernel
theorem dX11_inLowestTerms_43 : decode cX11_inLowestTerms 43 = .ok (.ifCond .ne 13, 3) := by decide +kernel
theorem dX11_inLowestTerms_46 : decode cX11_inLowestTerms 46 = .ok (.iload_n 2, 1) := by decide +kernel
theorem dX11_inLowestTerms_47 : decode cX11_inLowestTerms 47 = .ok (.ifCond .eq 7, 3) := by decide +kernel
theorem dX11_inLowestTerms_50 : decode cX11_inLowestTerms 50 = .ok (.iload_n 1, 1) := by decide +kernel
theorem dX11_inLowestTerms_51 : decode cX11_inLowestTerms 51 = .ok (.goto 4, 3) := by decide +kernel
theorem dX11_inLowestTerms_54 : decode cX11_inLowestTerms 54 = .ok (.iload_n 0, 1) := by decide +kernel
theorem dX11_inLowestTerms_55 : decode cX11_inLowestTerms 55 = .ok (.ireturn, 1) := by decide +kernel
theorem dX11_inLowestTerms_56 : decode cX11_inLowestTerms 56 = .ok (.iload_n 2, 1) := by decide +kernel
theorem dX11_inLowestTerms_57 : decode cX11_inLowestTerms 57 = .ok (.ifCond .eq 9, 3) := by decide +kernel
theorem dX11_inLowestTerms_60 : decode cX11_inLowestTerms 60 = .ok (.iload_n 1, 1) := by decide +kernel
theorem dX11_inLowestTerms_61 : decode cX11_inLowestTerms 61 = .ok (.iload_n 3, 1) := by decide +kernel
theorem dX11_inLowestTerms_62 : decode cX11_inLowestTerms 62 = .ok (.idiv, 1) := by decide +kernel
theorem dX11_inLowestTerms_63 : decode cX11_inLowestTerms 63 = .ok (.goto 6, 3) := by decide +kernel
theorem dX11_inLowestTerms_66 : decode cX11_inLowestTerms 66 = .ok (.iload_n 0, 1) := by decide +kernel
theorem dX11_inLowestTerms_67 : decode cX11_inLowestTerms 67 = .ok (.iload_n 3, 1) := by decide +kernel
theorem dX11_inLowestTerms_68 : decode cX11_inLowestTerms 68 = .ok (.idiv, 1) := by decide +kernel
theorem dX11_inLowestTerms_69 : decode cX11_inLowestTerms 69 = .ok (.ireturn, 1) := by decide +kernel
theorem dX11_factorial_0 : decode cX11_factorial 0 = .ok (.iconst 1, 1) := by decide +kernel
theorem dX11_factorial_1 : decode cX11_factorial 1 = .ok (.istore_n 1, 1) := by decide +kernel
theorem dX11_factorial_2 : decode cX11_factorial 2 = .ok (.iconst 2, 1) := by decide +kernel
theorem dX11_factorial_3 : decode cX11_factorial 3 = .ok (.istore_n 2, 1) := by decide +kernel
theorem dX11_factorial_4 : decode cX11_factorial 4 = .ok (.iload_n 2, 1) := by decide +kernel
theorem dX11_factorial_5 : decode cX11_factorial 5 = .ok (.iload_n 0, 1) := by decide +kernel
theorem dX11_factorial_6 : decode cX11_factorial 6 = .ok (.if_icmp .gt 18, 3) := by decide +kernel
theorem dX11_factorial_9 : decode cX11_factorial 9 = .ok (.iload_n 2, 1) := by decide +kernel
theorem dX11_factorial_10 : decode cX11_factorial 10 = .ok (.iconst 4, 1) := by decide +kernel
theorem dX11_factorial_11 : decode cX11_factorial 11 = .ok (.if_icmp .gt 13, 3) := by decide +kernel
theorem dX11_factorial_14 : decode cX11_factorial 14 = .ok (.iload_n 1, 1) := by decide +kernel
theorem dX11_factorial_15 : decode cX11_factorial 15 = .ok (.iload_n 2, 1) := by decide +kernel
theorem dX11_factorial_16 : decode cX11_factorial 16 = .ok (.imul, 1) := by decide +kernel
theorem dX11_factorial_17 : decode cX11_factorial 17 = .ok (.istore_n 1, 1) := by decide +kernel
theorem dX11_factorial_18 : decode cX11_factorial 18 = .ok (.iinc 2 1, 3) := by decide +kernel
theorem dX11_factorial_21 : decode cX11_factorial 21 = .ok (.goto (-17), 3) := by decide +kernel
theorem dX11_factorial_24 : decode cX11_factorial 24 = .ok (.iload_n 1, 1) := by decide +kernel
theorem dX11_factorial_25 : decode cX11_factorial 25 = .ok (.ireturn, 1) := by decide +kernel
set_option maxRecDepth 20000 in
theorem ggX11_isFall_X11_within : GoodIn wsX11_isFall wsX11_within := goodIn_r _ [4] rfl (by decide +kernel)
set_option maxRecDepth 20000 in
theorem gX11_isFall_X11_within : GoodIn wsX11_isFall (va_wsS RX11 72 yX11_within wsX11_within) := goodIn_app (goodIn_of _ (by decide +kernel)) ggX11_isFall_X11_within
theorem dX11_isFall_0 : decode cX11_isFall 0 = .ok (.iload_n 0, 1) := by decide +kernel
theorem dX11_isFall_1 : decode cX11_isFall 1 = .ok (.iconst 0, 1) := by decide +kernel
theorem dX11_isFall_2 : decode cX11_isFall 2 = .ok (.iconst 4, 1) := by decide +kernel
theorem dX11_isFall_3 : decode cX11_isFall 3 = .ok (.invokestatic 72, 3) := by decide +kernel
theorem dX11_isFall_6 : decode cX11_isFall 6 = .ok (.ireturn, 1) := by decide +kernel
set_option maxRecDepth 20000 in
theorem ggX11_isMood_X11_within : GoodIn wsX11_isMood wsX11_within := goodIn_r _ [4] rfl (by decide +kernel)
set_option maxRecDepth 20000 in
theorem gX11_isMood_X11_within : GoodIn wsX11_isMood (va_wsS RX11 72 yX11_within wsX11_within) := goodIn_app (goodIn_of _ (by decide +kernel)) ggX11_isMood_X11_within
theorem dX11_isMood_0 : decode cX11_isMood 0 = .ok (.iload_n 0, 1) := by decide +kernel
theorem dX11_isMood_1 : decode cX11_isMood 1 = .ok (.iconst 0, 1) := by decide +kernel
theorem dX11_isMood_2 : decode cX11_isMood 2 = .ok (.bipush 9, 2) := by decide +kernel
theorem dX11_isMood_4 : decode cX11_isMood 4 = .ok (.invokestatic 72, 3) := by decide +kernel
theorem dX11_isMood_7 : decode cX11_isMood 7 = .ok (.ireturn, 1) := by decide +kernel
theorem dX11_within_0 : decode cX11_within 0 = .ok (.iload_n 0, 1) := by decide +kernel
theorem dX11_within_1 : decode cX11_within 1 = .ok (.iload_n 1, 1) := by decide +kernel
theorem dX11_within_2 : decode cX11_within 2 = .ok (.if_icmp .lt 12, 3) := by decide +kernel
theorem dX11_within_5 : decode cX11_within 5 = .ok (.iload_n 0, 1) := by decide +kernel
theorem dX11_within_6 : decode cX11_within 6 = .ok (.iload_n 2, 1) := by decide +kernel
theorem dX11_within_7 : decode cX11_within 7 = .ok (.if_icmp .gt 7, 3) := by decide +kernel
theorem dX11_within_10 : decode cX11_within 10 = .ok (.iconst 1, 1) := by decide +kernel
theorem dX11_within_11 : decode cX11_within 11 = .ok (.goto 4, 3) := by decide +kernel
theorem dX11_within_14 : decode cX11_within 14 = .ok (.iconst 0, 1) := by decide +kernel
theorem dX11_within_15 : decode cX11_within 15 = .ok (.ireturn, 1) := by decide +kernel
theorem dX11_held_0 : decode cX11_held 0 = .ok (.iload_n 0, 1) := by decide +kernel
theorem dX11_held_1 : decode cX11_held 1 = .ok (.iload_n 1, 1) := by decide +kernel
theorem dX11_held_2 : decode cX11_held 2 = .ok (.if_icmp .ge 7, 3) := by decide +kernel
theorem dX11_held_5 : decode cX11_held 5 = .ok (.iload_n 1, 1) := by decide +kernel
theorem dX11_held_6 : decode cX11_held 6 = .ok (.goto 4, 3) := by decide +kernel
theorem dX11_held_9 : decode cX11_held 9 = .ok (.iload_n 0, 1) := by decide +kernel
theorem dX11_held_10 : decode cX11_held 10 = .ok (.istore_n 3, 1) := by decide +kernel
theorem dX11_held_11 : decode cX11_held 11 = .ok (.iload_n 3, 1) := by decide +kernel
theorem dX11_held_12 : decode cX11_held 12 = .ok (.iload_n 2, 1) := by decide +kernel
theorem dX11_held_13 : decode cX11_held 13 = .ok (.if_icmp .le 7, 3) := by decide +kernel
theorem dX11_held_16 : decode cX11_held 16 = .ok (.iload_n 2, 1) := by decide +kernel
theorem dX11_held_17 : decode cX11_held 17 = .ok (.goto 4, 3) := by decide +kernel
theorem dX11_held_20 : decode cX11_held 20 = .ok (.iload_n 3, 1) := by decide +kernel
theorem dX11_held_21 : decode cX11_held 21 = .ok (.ireturn, 1) := by decide +kernel
theorem dX11_at_0 : decode cX11_at 0 = .ok (.iload_n 1, 1) := by decide +kernel
theorem dX11_at_1 : decode cX11_at 1 = .ok (.ifCond .lt 15, 3) := by decide +kernel
theorem dX11_at_4 : decode cX11_at 4 = .ok (.iload_n 1, 1) := by decide +kernel
theorem dX11_at_5 : decode cX11_at 5 = .ok (.aload_n 0, 1) := by decide +kernel
theorem dX11_at_6 : decode cX11_at 6 = .ok (.arraylength, 1) := by decide +kernel
theorem dX11_at_7 : decode cX11_at 7 = .ok (.if_icmp .ge 9, 3) := by decide +kernel
theorem dX11_at_10 : decode cX11_at 10 = .ok (.aload_n 0, 1) := by decide +kernel
theorem dX11_at_11 : decode cX11_at 11 = .ok (.iload_n 1, 1) := by decide +kernel
theorem dX11_at_12 : decode cX11_at 12 = .ok (.iaload, 1) := by decide +kernel
theorem dX11_at_13 : decode cX11_at 13 = .ok (.goto 4, 3) := by decide +kernel
theorem dX11_at_16 : decode cX11_at 16 = .ok (.iconst 0, 1) := by decide +kernel
theorem dX11_at_17 : decode cX11_at 17 = .ok (.ireturn, 1) := by decide +kernel
theorem dX11_put_0 : decode cX11_put 0 = .ok (.iload_n 1, 1) := by decide +kernel
theorem dX11_put_1 : decode cX11_put 1 = .ok (.ifCond .lt 13, 3) := by decide +kernel
theorem dX11_put_4 : decode cX11_put 4 = .ok (.iload_n 1, 1) := by decide +kernel
theorem dX11_put_5 : decode cX11_put 5 = .ok (.aload_n 0, 1) := by decide +kernel
theorem dX11_put_6 : decode cX11_put 6 = .ok (.arraylength, 1) := by decide +kernel
theorem dX11_put_7 : decode cX11_put 7 = .ok (.if_icmp .ge 7, 3) := by decide +kernel
theorem dX11_put_10 : decode cX11_put 10 = .ok (.aload_n 0, 1) := by decide +kernel
theorem dX11_put_11 : decode cX11_put 11 = .ok (.iload_n 1, 1) := by decide +kernel
theorem dX11_put_12 : decode cX11_put 12 = .ok (.iload_n 2, 1) := by decide +kernel
theorem dX11_put_13 : decode cX11_put 13 = .ok (.iastore, 1) := by decide +kernel
theorem dX11_put_14 : decode cX11_put 14 = .ok (.return_, 1) := by decide +kernel
theorem dX11_copyPart_0 : decode cX11_copyPart 0 = .ok (.iload_n 1, 1) := by decide +kernel
theorem dX11_copyPart_1 : decode cX11_copyPart 1 = .ok (.ifCond .lt 39, 3) := by decide +kernel
theorem dX11_copyPart_4 : decode cX11_copyPart 4 = .ok (.iload_n 3, 1) := by decide +kernel
theorem dX11_copyPart_5 : decode cX11_copyPart 5 = .ok (.ifCond .lt 35, 3) := by decide +kernel
theorem dX11_copyPart_8 : decode cX11_copyPart 8 = .ok (.iload 4, 2) := by decide +kernel
theorem dX11_copyPart_10 : decode cX11_copyPart 10 = .ok (.ifCond .lt 30, 3) := by decide +kernel
theorem dX11_copyPart_13 : decode cX11_copyPart 13 = .ok (.iload 4, 2) := by decide +kernel
theorem dX11_copyPart_15 : decode cX11_copyPart 15 = .ok (.aload_n 0, 1) := by decide +kernel
theorem dX11_copyPart_16 : decode cX11_copyPart 16 = .ok (.arraylength, 1) := by decide +kernel
theorem dX11_copyPart_17 : decode cX11_copyPart 17 = .ok (.iload_n 1, 1) := by decide +kernel
theorem dX11_copyPart_18 : decode cX11_copyPart 18 = .ok (.isub, 1) := by decide +kernel
theorem dX11_copyPart_19 : decode cX11_copyPart 19 = .ok (.if_icmp .gt 21, 3) := by decide +kernel
theorem dX11_copyPart_22 : decode cX11_copyPart 22 = .ok (.iload 4, 2) := by decide +kernel
theorem dX11_copyPart_24 : decode cX11_copyPart 24 = .ok (.aload_n 2, 1) := by decide +kernel
theorem dX11_copyPart_25 : decode cX11_copyPart 25 = .ok (.arraylength, 1) := by decide +kernel
theorem dX11_copyPart_26 : decode cX11_copyPart 26 = .ok (.iload_n 3, 1) := by decide +kernel
theorem dX11_copyPart_27 : decode cX11_copyPart 27 = .ok (.isub, 1) := by decide +kernel
theorem dX11_copyPart_28 : decode cX11_copyPart 28 = .ok (.if_icmp .gt 12, 3) := by decide +kernel
theorem dX11_copyPart_31 : decode cX11_copyPart 31 = .ok (.aload_n 0, 1) := by decide +kernel
theorem dX11_copyPart_32 : decode cX11_copyPart 32 = .ok (.iload_n 1, 1) := by decide +kernel
theorem dX11_copyPart_33 : decode cX11_copyPart 33 = .ok (.aload_n 2, 1) := by decide +kernel
theorem dX11_copyPart_34 : decode cX11_copyPart 34 = .ok (.iload_n 3, 1) := by decide +kernel
theorem dX11_copyPart_35 : decode cX11_copyPart 35 = .ok (.iload 4, 2) := by decide +kernel
theorem dX11_copyPart_37 : decode cX11_copyPart 37 = .ok (.invokestatic 383, 3) := by decide +kernel
theorem dX11_copyPart_40 : decode cX11_copyPart 40 = .ok (.return_, 1) := by decide +kernel
set_option maxRecDepth 20000 in
theorem ggX11_copyWhole_X11_copyPart : GoodIn wsX11_copyWhole wsX11_copyPart := goodIn_r _ [4, 5, 6, 7, 8] rfl (by decide +kernel)
set_option maxRecDepth 20000 in
theorem gX11_copyWhole_X11_copyPart : GoodIn wsX11_copyWhole (va_wsS RX11 389 yX11_copyPart wsX11_copyPart) := goodIn_app (goodIn_of _ (by decide +kernel)) ggX11_copyWhole_X11_copyPart
theorem dX11_copyWhole_0 : decode cX11_copyWhole 0 = .ok (.aload_n 0, 1) := by decide +kernel
theorem dX11_copyWhole_1 : decode cX11_copyWhole 1 = .ok (.iconst 0, 1) := by decide +kernel
theorem dX11_copyWhole_2 : decode cX11_copyWhole 2 = .ok (.aload_n 1, 1) := by decide +kernel
theorem dX11_copyWhole_3 : decode cX11_copyWhole 3 = .ok (.iconst 0, 1) := by decide +kernel
theorem dX11_copyWhole_4 : decode cX11_copyWhole 4 = .ok (.aload_n 0, 1) := by decide +kernel
theorem dX11_copyWhole_5 : decode cX11_copyWhole 5 = .ok (.arraylength, 1) := by decide +kernel
theorem dX11_copyWhole_6 : decode cX11_copyWhole 6 = .ok (.invokestatic 389, 3) := by decide +kernel
theorem dX11_copyWhole_9 : decode cX11_copyWhole 9 = .ok (.return_, 1) := by decide +kernel
