theorem dX6_init_0 : decode cX6_init 0 = .ok (.aload_n 0, 1) := by decide +kernel
theorem dX6_init_1 : decode cX6_init 1 = .ok (.invokespecial 3, 3) := by decide +kernel
theorem dX6_init_4 : decode cX6_init 4 = .ok (.aload_n 0, 1) := by decide +kernel
theorem dX6_init_5 : decode cX6_init 5 = .ok (.iconst 0, 1) := by decide +kernel
theorem dX6_init_6 : decode cX6_init 6 = .ok (.putfield 9, 3) := by decide +kernel
theorem dX6_init_9 : decode cX6_init 9 = .ok (.aload_n 0, 1) := by decide +kernel
theorem dX6_init_10 : decode cX6_init 10 = .ok (.iconst (-1), 1) := by decide +kernel
theorem dX6_init_11 : decode cX6_init 11 = .ok (.putfield 15, 3) := by decide +kernel
theorem dX6_init_14 : decode cX6_init 14 = .ok (.aload_n 0, 1) := by decide +kernel
theorem dX6_init_15 : decode cX6_init 15 = .ok (.iconst (-1), 1) := by decide +kernel
theorem dX6_init_16 : decode cX6_init 16 = .ok (.putfield 18, 3) := by decide +kernel
theorem dX6_init_19 : decode cX6_init 19 = .ok (.aload_n 0, 1) := by decide +kernel
theorem dX6_init_20 : decode cX6_init 20 = .ok (.sipush 300, 3) := by decide +kernel
theorem dX6_init_23 : decode cX6_init 23 = .ok (.newarray .int, 2) := by decide +kernel
theorem dX6_init_25 : decode cX6_init 25 = .ok (.putfield 21, 3) := by decide +kernel
theorem dX6_init_28 : decode cX6_init 28 = .ok (.aload_n 0, 1) := by decide +kernel
theorem dX6_init_29 : decode cX6_init 29 = .ok (.bipush 96, 2) := by decide +kernel
theorem dX6_init_31 : decode cX6_init 31 = .ok (.newarray .int, 2) := by decide +kernel
theorem dX6_init_33 : decode cX6_init 33 = .ok (.putfield 25, 3) := by decide +kernel
theorem dX6_init_36 : decode cX6_init 36 = .ok (.aload_n 0, 1) := by decide +kernel
theorem dX6_init_37 : decode cX6_init 37 = .ok (.sipush 300, 3) := by decide +kernel
theorem dX6_init_40 : decode cX6_init 40 = .ok (.newarray .int, 2) := by decide +kernel
theorem dX6_init_42 : decode cX6_init 42 = .ok (.putfield 28, 3) := by decide +kernel
theorem dX6_init_45 : decode cX6_init 45 = .ok (.aload_n 0, 1) := by decide +kernel
theorem dX6_init_46 : decode cX6_init 46 = .ok (.bipush 6, 2) := by decide +kernel
theorem dX6_init_48 : decode cX6_init 48 = .ok (.newarray .int, 2) := by decide +kernel
theorem dX6_init_50 : decode cX6_init 50 = .ok (.putfield 31, 3) := by decide +kernel
theorem dX6_init_53 : decode cX6_init 53 = .ok (.return_, 1) := by decide +kernel
theorem dX6_hasRoom_0 : decode cX6_hasRoom 0 = .ok (.aload_n 0, 1) := by decide +kernel
theorem dX6_hasRoom_1 : decode cX6_hasRoom 1 = .ok (.getfield 9, 3) := by decide +kernel
theorem dX6_hasRoom_4 : decode cX6_hasRoom 4 = .ok (.sipush 280, 3) := by decide +kernel
theorem dX6_hasRoom_7 : decode cX6_hasRoom 7 = .ok (.if_icmp .gt 7, 3) := by decide +kernel
theorem dX6_hasRoom_10 : decode cX6_hasRoom 10 = .ok (.iconst 1, 1) := by decide +kernel
theorem dX6_hasRoom_11 : decode cX6_hasRoom 11 = .ok (.goto 4, 3) := by decide +kernel
theorem dX6_hasRoom_14 : decode cX6_hasRoom 14 = .ok (.iconst 0, 1) := by decide +kernel
theorem dX6_hasRoom_15 : decode cX6_hasRoom 15 = .ok (.ireturn, 1) := by decide +kernel
set_option maxRecDepth 20000 in
theorem ggX6_addBytes_X11_put : GoodIn wsX6_addBytes wsX11_put := goodIn_r _ [5] rfl (by decide +kernel)
set_option maxRecDepth 20000 in
theorem gX6_addBytes_X11_put_n34 : GoodIn wsX6_addBytes (wsX11_put) := ggX6_addBytes_X11_put
theorem dX6_addBytes_0 : decode cX6_addBytes 0 = .ok (.bipush 24, 2) := by decide +kernel
theorem dX6_addBytes_2 : decode cX6_addBytes 2 = .ok (.istore_n 2, 1) := by decide +kernel
theorem dX6_addBytes_3 : decode cX6_addBytes 3 = .ok (.iload_n 2, 1) := by decide +kernel
theorem dX6_addBytes_4 : decode cX6_addBytes 4 = .ok (.ifCond .lt 37, 3) := by decide +kernel
theorem dX6_addBytes_7 : decode cX6_addBytes 7 = .ok (.aload_n 0, 1) := by decide +kernel
theorem dX6_addBytes_8 : decode cX6_addBytes 8 = .ok (.getfield 21, 3) := by decide +kernel
theorem dX6_addBytes_11 : decode cX6_addBytes 11 = .ok (.aload_n 0, 1) := by decide +kernel
theorem dX6_addBytes_12 : decode cX6_addBytes 12 = .ok (.getfield 9, 3) := by decide +kernel
theorem dX6_addBytes_15 : decode cX6_addBytes 15 = .ok (.iload_n 1, 1) := by decide +kernel
theorem dX6_addBytes_16 : decode cX6_addBytes 16 = .ok (.iload_n 2, 1) := by decide +kernel
theorem dX6_addBytes_17 : decode cX6_addBytes 17 = .ok (.ishr, 1) := by decide +kernel
theorem dX6_addBytes_18 : decode cX6_addBytes 18 = .ok (.sipush 255, 3) := by decide +kernel
theorem dX6_addBytes_21 : decode cX6_addBytes 21 = .ok (.iand, 1) := by decide +kernel
theorem dX6_addBytes_22 : decode cX6_addBytes 22 = .ok (.invokestatic 34, 3) := by decide +kernel
theorem dX6_addBytes_25 : decode cX6_addBytes 25 = .ok (.aload_n 0, 1) := by decide +kernel
theorem dX6_addBytes_26 : decode cX6_addBytes 26 = .ok (.dup, 1) := by decide +kernel
theorem dX6_addBytes_27 : decode cX6_addBytes 27 = .ok (.getfield 9, 3) := by decide +kernel
theorem dX6_addBytes_30 : decode cX6_addBytes 30 = .ok (.iconst 1, 1) := by decide +kernel
theorem dX6_addBytes_31 : decode cX6_addBytes 31 = .ok (.iadd, 1) := by decide +kernel
theorem dX6_addBytes_32 : decode cX6_addBytes 32 = .ok (.putfield 9, 3) := by decide +kernel
theorem dX6_addBytes_35 : decode cX6_addBytes 35 = .ok (.iinc 2 (-8), 3) := by decide +kernel
theorem dX6_addBytes_38 : decode cX6_addBytes 38 = .ok (.goto (-35), 3) := by decide +kernel
theorem dX6_addBytes_41 : decode cX6_addBytes 41 = .ok (.return_, 1) := by decide +kernel
set_option maxRecDepth 20000 in
theorem ggX6_readTape_J7_fill_53178 : GoodIn wsX6_readTape wsJ7_fill_53178 := goodIn_r _ [26] rfl (by decide +kernel)
set_option maxRecDepth 20000 in
theorem gX6_readTape_J7_fill_53178 : GoodIn wsX6_readTape (va_wsS RX6 53 yJ7_fill_53178 wsJ7_fill_53178) := goodIn_app (goodIn_of _ (by decide +kernel)) ggX6_readTape_J7_fill_53178
set_option maxRecDepth 20000 in
theorem ggX6_readTape_X6_advance : GoodIn wsX6_readTape wsX6_advance := goodIn_r _ [31, 2, 1, 12, 32, 10, 8, 33, 34, 35, 36, 37, 30, 38, 39, 40, 41, 42, 43, 44, 45, 46, 47, 48, 49, 50, 51, 52, 53, 54, 55, 56, 57, 58, 59, 60, 61, 62, 63, 64, 65, 66, 67, 68, 69, 70, 71, 72, 73, 74, 75, 76, 77, 78, 79, 80, 81, 82, 83, 84, 85, 86, 87, 88, 89, 90, 91, 92, 93, 94, 95, 96, 97, 98, 99, 100, 101, 102, 103, 104, 105, 106, 107, 108, 109, 110, 111, 112, 113, 212, 213, 214, 215, 216, 217, 218, 219, 220, 221, 222, 223, 224, 225, 226, 227] rfl (by decide +kernel)
set_option maxRecDepth 20000 in
theorem gX6_readTape_X6_advance : GoodIn wsX6_readTape (wsV RX6 59 RX6 yX6_advance wsX6_advance) := goodIn_app (goodIn_of _ (by decide +kernel)) ggX6_readTape_X6_advance
set_option maxRecDepth 20000 in
theorem ggX6_readTape_X6_readClause : GoodIn wsX6_readTape wsX6_readClause := goodIn_r _ [117, 8, 6, 3, 7, 118, 4, 119, 120, 30, 121, 122, 123, 124, 125, 2, 126, 127, 128, 33, 34, 35, 129, 130, 27, 28, 29, 31, 1, 12, 32, 10, 36, 37, 38, 39, 40, 41, 42, 43, 44, 45, 46, 47, 48, 49, 50, 51, 52, 53, 54, 55, 56, 57, 58, 59, 60, 61, 62, 63, 64, 65, 66, 67, 68, 69, 70, 71, 72, 73, 74, 75, 76, 77, 78, 79, 80, 81, 82, 83, 84, 85, 86, 87, 88, 89, 90, 91, 92, 93, 94, 95, 96, 97, 98, 99, 100, 101, 102, 103, 104, 105, 106, 107, 108, 109, 110, 111, 112, 113, 131, 132, 133, 134, 135, 136, 137, 138, 139, 140, 141, 16, 142, 5, 143, 144, 145, 146, 147, 148, 149, 150, 151, 152, 153, 154, 155, 156, 157, 158, 159, 160, 161, 162, 163, 164, 165, 166, 167, 168, 169, 170, 171, 172, 173, 174, 175, 176, 177, 178, 179, 180, 181, 182, 183, 184, 185, 186, 187, 188, 212, 213, 214, 215, 216, 217, 218, 219, 220, 221, 222, 223, 224, 225, 226, 227] rfl (by decide +kernel)
set_option maxRecDepth 20000 in
theorem gX6_readTape_X6_readClause : GoodIn wsX6_readTape (wsV RX6 65 RX6 yX6_readClause wsX6_readClause) := goodIn_app (goodIn_of _ (by decide +kernel)) ggX6_readTape_X6_readClause
set_option maxRecDepth 20000 in
theorem ggX6_readTape_X11_held : GoodIn wsX6_readTape wsX11_held := goodIn_r _ [190] rfl (by decide +kernel)
set_option maxRecDepth 20000 in
theorem gX6_readTape_X11_held_n71 : GoodIn wsX6_readTape (wsX11_held) := ggX6_readTape_X11_held
set_option maxRecDepth 20000 in
theorem ggX6_readTape_J7_copyOf_59c91 : GoodIn wsX6_readTape wsJ7_copyOf_59c91 := goodIn_r _ [193, 194, 18, 19, 20, 21, 195, 196, 197, 104, 105, 106, 198, 199, 200, 201] rfl (by decide +kernel)
set_option maxRecDepth 20000 in
theorem gX6_readTape_J7_copyOf_59c91 : GoodIn wsX6_readTape (va_wsS RX6 77 yJ7_copyOf_59c91 wsJ7_copyOf_59c91) := goodIn_app (goodIn_of _ (by decide +kernel)) ggX6_readTape_J7_copyOf_59c91
set_option maxRecDepth 20000 in
theorem ggX6_readTape_X9_init : GoodIn wsX6_readTape wsX9_init := goodIn_r _ [204, 205, 206, 207, 208, 209, 210, 211, 228, 229, 230, 231] rfl (by decide +kernel)
set_option maxRecDepth 20000 in
theorem gX6_readTape_X9_init : GoodIn wsX6_readTape (wsX9_init) := ggX6_readTape_X9_init
theorem dX6_readTape_0 : decode cX6_readTape 0 = .ok (.aload_n 0, 1) := by decide +kernel
theorem dX6_readTape_1 : decode cX6_readTape 1 = .ok (.iconst 0, 1) := by decide +kernel
theorem dX6_readTape_2 : decode cX6_readTape 2 = .ok (.putfield 38, 3) := by decide +kernel
theorem dX6_readTape_5 : decode cX6_readTape 5 = .ok (.aload_n 0, 1) := by decide +kernel
theorem dX6_readTape_6 : decode cX6_readTape 6 = .ok (.iconst 0, 1) := by decide +kernel
theorem dX6_readTape_7 : decode cX6_readTape 7 = .ok (.putfield 41, 3) := by decide +kernel
theorem dX6_readTape_10 : decode cX6_readTape 10 = .ok (.aload_n 0, 1) := by decide +kernel
theorem dX6_readTape_11 : decode cX6_readTape 11 = .ok (.iconst 0, 1) := by decide +kernel
theorem dX6_readTape_12 : decode cX6_readTape 12 = .ok (.putfield 44, 3) := by decide +kernel
theorem dX6_readTape_15 : decode cX6_readTape 15 = .ok (.aload_n 0, 1) := by decide +kernel
theorem dX6_readTape_16 : decode cX6_readTape 16 = .ok (.iconst 0, 1) := by decide +kernel
theorem dX6_readTape_17 : decode cX6_readTape 17 = .ok (.putfield 47, 3) := by decide +kernel
theorem dX6_readTape_20 : decode cX6_readTape 20 = .ok (.aload_n 0, 1) := by decide +kernel
theorem dX6_readTape_21 : decode cX6_readTape 21 = .ok (.iconst 0, 1) := by decide +kernel
theorem dX6_readTape_22 : decode cX6_readTape 22 = .ok (.putfield 50, 3) := by decide +kernel
theorem dX6_readTape_25 : decode cX6_readTape 25 = .ok (.aload_n 0, 1) := by decide +kernel
theorem dX6_readTape_26 : decode cX6_readTape 26 = .ok (.getfield 31, 3) := by decide +kernel
theorem dX6_readTape_29 : decode cX6_readTape 29 = .ok (.iconst 0, 1) := by decide +kernel
theorem dX6_readTape_30 : decode cX6_readTape 30 = .ok (.invokestatic 53, 3) := by decide +kernel
theorem dX6_readTape_33 : decode cX6_readTape 33 = .ok (.aload_n 0, 1) := by decide +kernel
theorem dX6_readTape_34 : decode cX6_readTape 34 = .ok (.getfield 25, 3) := by decide +kernel
theorem dX6_readTape_37 : decode cX6_readTape 37 = .ok (.iconst 0, 1) := by decide +kernel
theorem dX6_readTape_38 : decode cX6_readTape 38 = .ok (.invokestatic 53, 3) := by decide +kernel
theorem dX6_readTape_41 : decode cX6_readTape 41 = .ok (.aload_n 0, 1) := by decide +kernel
theorem dX6_readTape_42 : decode cX6_readTape 42 = .ok (.invokevirtual 59, 3) := by decide +kernel
theorem dX6_readTape_45 : decode cX6_readTape 45 = .ok (.iconst 0, 1) := by decide +kernel
theorem dX6_readTape_46 : decode cX6_readTape 46 = .ok (.istore_n 1, 1) := by decide +kernel
theorem dX6_readTape_47 : decode cX6_readTape 47 = .ok (.iload_n 1, 1) := by decide +kernel
theorem dX6_readTape_48 : decode cX6_readTape 48 = .ok (.bipush 24, 2) := by decide +kernel
theorem dX6_readTape_50 : decode cX6_readTape 50 = .ok (.if_icmp .gt 29, 3) := by decide +kernel
theorem dX6_readTape_53 : decode cX6_readTape 53 = .ok (.aload_n 0, 1) := by decide +kernel
theorem dX6_readTape_54 : decode cX6_readTape 54 = .ok (.getfield 41, 3) := by decide +kernel
theorem dX6_readTape_57 : decode cX6_readTape 57 = .ok (.ifCond .ne 22, 3) := by decide +kernel
theorem dX6_readTape_60 : decode cX6_readTape 60 = .ok (.aload_n 0, 1) := by decide +kernel
theorem dX6_readTape_61 : decode cX6_readTape 61 = .ok (.getfield 62, 3) := by decide +kernel
theorem dX6_readTape_64 : decode cX6_readTape 64 = .ok (.bipush 31, 2) := by decide +kernel
theorem dX6_readTape_66 : decode cX6_readTape 66 = .ok (.if_icmp .eq 13, 3) := by decide +kernel
theorem dX6_readTape_69 : decode cX6_readTape 69 = .ok (.aload_n 0, 1) := by decide +kernel
theorem dX6_readTape_70 : decode cX6_readTape 70 = .ok (.invokevirtual 65, 3) := by decide +kernel
theorem dX6_readTape_73 : decode cX6_readTape 73 = .ok (.iinc 1 1, 3) := by decide +kernel
theorem dX6_readTape_76 : decode cX6_readTape 76 = .ok (.goto (-29), 3) := by decide +kernel
theorem dX6_readTape_79 : decode cX6_readTape 79 = .ok (.aload_n 0, 1) := by decide +kernel
theorem dX6_readTape_80 : decode cX6_readTape 80 = .ok (.aload_n 0, 1) := by decide +kernel
theorem dX6_readTape_81 : decode cX6_readTape 81 = .ok (.getfield 41, 3) := by decide +kernel
theorem dX6_readTape_84 : decode cX6_readTape 84 = .ok (.putfield 15, 3) := by decide +kernel
theorem dX6_readTape_87 : decode cX6_readTape 87 = .ok (.aload_n 0, 1) := by decide +kernel
theorem dX6_readTape_88 : decode cX6_readTape 88 = .ok (.aload_n 0, 1) := by decide +kernel
theorem dX6_readTape_89 : decode cX6_readTape 89 = .ok (.getfield 41, 3) := by decide +kernel
theorem dX6_readTape_92 : decode cX6_readTape 92 = .ok (.ifCond .ne 7, 3) := by decide +kernel
theorem dX6_readTape_95 : decode cX6_readTape 95 = .ok (.iconst (-1), 1) := by decide +kernel
theorem dX6_readTape_96 : decode cX6_readTape 96 = .ok (.goto 7, 3) := by decide +kernel
theorem dX6_readTape_99 : decode cX6_readTape 99 = .ok (.aload_n 0, 1) := by decide +kernel
theorem dX6_readTape_100 : decode cX6_readTape 100 = .ok (.getfield 68, 3) := by decide +kernel
theorem dX6_readTape_103 : decode cX6_readTape 103 = .ok (.putfield 18, 3) := by decide +kernel
theorem dX6_readTape_106 : decode cX6_readTape 106 = .ok (.aload_n 0, 1) := by decide +kernel
theorem dX6_readTape_107 : decode cX6_readTape 107 = .ok (.iconst 0, 1) := by decide +kernel
theorem dX6_readTape_108 : decode cX6_readTape 108 = .ok (.putfield 9, 3) := by decide +kernel
theorem dX6_readTape_111 : decode cX6_readTape 111 = .ok (.aload_n 0, 1) := by decide +kernel
theorem dX6_readTape_112 : decode cX6_readTape 112 = .ok (.getfield 41, 3) := by decide +kernel
theorem dX6_readTape_115 : decode cX6_readTape 115 = .ok (.ifCond .eq 5, 3) := by decide +kernel
theorem dX6_readTape_118 : decode cX6_readTape 118 = .ok (.aconst_null, 1) := by decide +kernel
theorem dX6_readTape_119 : decode cX6_readTape 119 = .ok (.areturn, 1) := by decide +kernel
theorem dX6_readTape_120 : decode cX6_readTape 120 = .ok (.aload_n 0, 1) := by decide +kernel
theorem dX6_readTape_121 : decode cX6_readTape 121 = .ok (.getfield 44, 3) := by decide +kernel
theorem dX6_readTape_124 : decode cX6_readTape 124 = .ok (.iconst 4, 1) := by decide +kernel
theorem dX6_readTape_125 : decode cX6_readTape 125 = .ok (.imul, 1) := by decide +kernel
theorem dX6_readTape_126 : decode cX6_readTape 126 = .ok (.iconst 0, 1) := by decide +kernel
theorem dX6_readTape_127 : decode cX6_readTape 127 = .ok (.aload_n 0, 1) := by decide +kernel
theorem dX6_readTape_128 : decode cX6_readTape 128 = .ok (.getfield 25, 3) := by decide +kernel
theorem dX6_readTape_131 : decode cX6_readTape 131 = .ok (.arraylength, 1) := by decide +kernel
theorem dX6_readTape_132 : decode cX6_readTape 132 = .ok (.invokestatic 71, 3) := by decide +kernel
theorem dX6_readTape_135 : decode cX6_readTape 135 = .ok (.istore_n 1, 1) := by decide +kernel
theorem dX6_readTape_136 : decode cX6_readTape 136 = .ok (.new 75, 3) := by decide +kernel
theorem dX6_readTape_139 : decode cX6_readTape 139 = .ok (.dup, 1) := by decide +kernel
theorem dX6_readTape_140 : decode cX6_readTape 140 = .ok (.aload_n 0, 1) := by decide +kernel
theorem dX6_readTape_141 : decode cX6_readTape 141 = .ok (.getfield 44, 3) := by decide +kernel
theorem dX6_readTape_144 : decode cX6_readTape 144 = .ok (.aload_n 0, 1) := by decide +kernel
theorem dX6_readTape_145 : decode cX6_readTape 145 = .ok (.getfield 25, 3) := by decide +kernel
theorem dX6_readTape_148 : decode cX6_readTape 148 = .ok (.iload_n 1, 1) := by decide +kernel
theorem dX6_readTape_149 : decode cX6_readTape 149 = .ok (.invokestatic 77, 3) := by decide +kernel
theorem dX6_readTape_152 : decode cX6_readTape 152 = .ok (.aload_n 0, 1) := by decide +kernel
theorem dX6_readTape_153 : decode cX6_readTape 153 = .ok (.getfield 28, 3) := by decide +kernel
theorem dX6_readTape_156 : decode cX6_readTape 156 = .ok (.aload_n 0, 1) := by decide +kernel
theorem dX6_readTape_157 : decode cX6_readTape 157 = .ok (.getfield 47, 3) := by decide +kernel
theorem dX6_readTape_160 : decode cX6_readTape 160 = .ok (.iconst 0, 1) := by decide +kernel
theorem dX6_readTape_161 : decode cX6_readTape 161 = .ok (.aload_n 0, 1) := by decide +kernel
theorem dX6_readTape_162 : decode cX6_readTape 162 = .ok (.getfield 28, 3) := by decide +kernel
theorem dX6_readTape_165 : decode cX6_readTape 165 = .ok (.arraylength, 1) := by decide +kernel
theorem dX6_readTape_166 : decode cX6_readTape 166 = .ok (.invokestatic 71, 3) := by decide +kernel
theorem dX6_readTape_169 : decode cX6_readTape 169 = .ok (.invokestatic 77, 3) := by decide +kernel
theorem dX6_readTape_172 : decode cX6_readTape 172 = .ok (.aload_n 0, 1) := by decide +kernel
theorem dX6_readTape_173 : decode cX6_readTape 173 = .ok (.getfield 31, 3) := by decide +kernel
theorem dX6_readTape_176 : decode cX6_readTape 176 = .ok (.invokevirtual 81, 3) := by decide +kernel
theorem dX6_readTape_179 : decode cX6_readTape 179 = .ok (.checkcast 82, 3) := by decide +kernel
theorem dX6_readTape_182 : decode cX6_readTape 182 = .ok (.invokespecial 86, 3) := by decide +kernel
theorem dX6_readTape_185 : decode cX6_readTape 185 = .ok (.areturn, 1) := by decide +kernel
set_option maxRecDepth 20000 in
theorem ggX6_readClause_X6_beginsClause : GoodIn wsX6_readClause wsX6_beginsClause := goodIn_r _ [10] rfl (by decide +kernel)
set_option maxRecDepth 20000 in
theorem gX6_readClause_X6_beginsClause : GoodIn wsX6_readClause (va_wsS RX6 89 yX6_beginsClause wsX6_beginsClause) := goodIn_app (goodIn_of _ (by decide +kernel)) ggX6_readClause_X6_beginsClause
set_option maxRecDepth 20000 in
theorem ggX6_readClause_X6_fail : GoodIn wsX6_readClause wsX6_fail := goodIn_r _ [14, 15, 1, 170, 171, 172, 173, 174, 175, 176, 177, 178, 179, 180, 181, 182, 183, 184, 185] rfl (by decide +kernel)
set_option maxRecDepth 20000 in
theorem gX6_readClause_X6_fail : GoodIn wsX6_readClause (wsV RX6 93 RX6 yX6_fail wsX6_fail) := goodIn_app (goodIn_of _ (by decide +kernel)) ggX6_readClause_X6_fail
set_option maxRecDepth 20000 in
theorem ggX6_readClause_X6_isLaw : GoodIn wsX6_readClause wsX6_isLaw := goodIn_r _ [18] rfl (by decide +kernel)
set_option maxRecDepth 20000 in
theorem gX6_readClause_X6_isLaw : GoodIn wsX6_readClause (va_wsS RX6 97 yX6_isLaw wsX6_isLaw) := goodIn_app (goodIn_of _ (by decide +kernel)) ggX6_readClause_X6_isLaw
set_option maxRecDepth 20000 in
theorem ggX6_readClause_X11_at : GoodIn wsX6_readClause wsX11_at := goodIn_r _ [21] rfl (by decide +kernel)
set_option maxRecDepth 20000 in
theorem gX6_readClause_X11_at_n100 : GoodIn wsX6_readClause (wsX11_at) := ggX6_readClause_X11_at
set_option maxRecDepth 20000 in
theorem ggX6_readClause_X11_put : GoodIn wsX6_readClause wsX11_put := goodIn_r _ [23] rfl (by decide +kernel)
set_option maxRecDepth 20000 in
theorem gX6_readClause_X11_put_n34 : GoodIn wsX6_readClause (wsX11_put) := ggX6_readClause_X11_put
set_option maxRecDepth 20000 in
theorem ggX6_readClause_X6_advance : GoodIn wsX6_readClause wsX6_advance := goodIn_r _ [27, 15, 28, 29, 30, 31, 1, 19, 20, 21, 32, 33, 9, 34, 35, 36, 37, 38, 39, 40, 41, 42, 43, 44, 45, 46, 47, 48, 49, 50, 51, 52, 53, 54, 55, 56, 57, 58, 59, 60, 61, 62, 63, 64, 65, 66, 67, 68, 69, 70, 71, 72, 73, 74, 75, 76, 77, 78, 79, 80, 81, 82, 83, 84, 85, 86, 87, 88, 89, 90, 91, 92, 93, 94, 95, 96, 97, 98, 99, 100, 101, 102, 103, 104, 105, 106, 107, 108, 109, 170, 171, 172, 173, 174, 175, 176, 177, 178, 179, 180, 181, 182, 183, 184, 185] rfl (by decide +kernel)
set_option maxRecDepth 20000 in
theorem gX6_readClause_X6_advance : GoodIn wsX6_readClause (wsV RX6 59 RX6 yX6_advance wsX6_advance) := goodIn_app (goodIn_of _ (by decide +kernel)) ggX6_readClause_X6_advance
set_option maxRecDepth 20000 in
theorem ggX6_readClause_X6_readSum : GoodIn wsX6_readClause wsX6_readSum := goodIn_r _ [113, 1, 114, 115, 116, 9, 24, 25, 26, 27, 15, 28, 29, 30, 31, 19, 20, 21, 32, 33, 34, 35, 36, 37, 38, 39, 40, 41, 42, 43, 44, 45, 46, 47, 48, 49, 50, 51, 52, 53, 54, 55, 56, 57, 58, 59, 60, 61, 62, 63, 64, 65, 66, 67, 68, 69, 70, 71, 72, 73, 74, 75, 76, 77, 78, 79, 80, 81, 82, 83, 84, 85, 86, 87, 88, 89, 90, 91, 92, 93, 94, 95, 96, 97, 98, 99, 100, 101, 102, 103, 104, 105, 106, 107, 108, 109, 117, 118, 119, 120, 121, 6, 22, 23, 122, 123, 124, 125, 126, 127, 11, 12, 13, 14, 128, 129, 130, 110, 111, 112, 131, 132, 133, 134, 135, 136, 137, 138, 139, 140, 141, 142, 143, 144, 145, 146, 147, 148, 149, 150, 151, 152, 153, 154, 155, 156, 157, 158, 5, 159, 170, 171, 172, 173, 174, 175, 176, 177, 178, 179, 180, 181, 182, 183, 184, 185] rfl (by decide +kernel)
set_option maxRecDepth 20000 in
theorem gX6_readClause_X6_readSum : GoodIn wsX6_readClause (wsV RX6 107 RX6 yX6_readSum wsX6_readSum) := goodIn_app (goodIn_of _ (by decide +kernel)) ggX6_readClause_X6_readSum
set_option maxRecDepth 20000 in
theorem ggX6_readClause_X6_readDeed : GoodIn wsX6_readClause wsX6_readDeed := goodIn_r _ [163, 164, 165, 166, 9, 167, 1, 98, 4, 3, 11, 12, 13, 14, 15, 168, 20, 169, 22, 23, 24, 25, 26, 27, 28, 29, 30, 31, 19, 21, 32, 33, 34, 35, 36, 37, 38, 39, 40, 41, 42, 43, 44, 45, 46, 47, 48, 49, 50, 51, 52, 53, 54, 55, 56, 57, 58, 59, 60, 61, 62, 63, 64, 65, 66, 67, 68, 69, 70, 71, 72, 73, 74, 75, 76, 77, 78, 79, 80, 81, 82, 83, 84, 85, 86, 87, 88, 89, 90, 91, 92, 93, 94, 95, 96, 97, 99, 100, 101, 102, 103, 104, 105, 106, 107, 108, 109, 136, 137, 138, 139, 170, 171, 172, 173, 174, 175, 176, 177, 178, 179, 180, 181, 182, 183, 184, 185] rfl (by decide +kernel)
set_option maxRecDepth 20000 in
theorem gX6_readClause_X6_readDeed : GoodIn wsX6_readClause (wsV RX6 110 RX6 yX6_readDeed wsX6_readDeed) := goodIn_app (goodIn_of _ (by decide +kernel)) ggX6_readClause_X6_readDeed
set_option maxRecDepth 20000 in
theorem ggX6_readClause_X6_expect : GoodIn wsX6_readClause wsX6_expect := goodIn_r _ [139, 1, 24, 25, 26, 9, 27, 15, 28, 29, 30, 31, 19, 20, 21, 32, 33, 34, 35, 36, 37, 38, 39, 40, 41, 42, 43, 44, 45, 46, 47, 48, 49, 50, 51, 52, 53, 54, 55, 56, 57, 58, 59, 60, 61, 62, 63, 64, 65, 66, 67, 68, 69, 70, 71, 72, 73, 74, 75, 76, 77, 78, 79, 80, 81, 82, 83, 84, 85, 86, 87, 88, 89, 90, 91, 92, 93, 94, 95, 96, 97, 98, 99, 100, 101, 102, 103, 104, 105, 106, 107, 108, 109, 11, 12, 13, 14, 170, 171, 172, 173, 174, 175, 176, 177, 178, 179, 180, 181, 182, 183, 184, 185] rfl (by decide +kernel)
set_option maxRecDepth 20000 in
theorem gX6_readClause_X6_expect : GoodIn wsX6_readClause (wsV RX6 113 RX6 yX6_expect wsX6_expect) := goodIn_app (goodIn_of _ (by decide +kernel)) ggX6_readClause_X6_expect
theorem dX6_readClause_0 : decode cX6_readClause 0 = .ok (.aload_n 0, 1) := by decide +kernel
theorem dX6_readClause_1 : decode cX6_readClause 1 = .ok (.getfield 62, 3) := by decide +kernel
theorem dX6_readClause_4 : decode cX6_readClause 4 = .ok (.istore_n 1, 1) := by decide +kernel
theorem dX6_readClause_5 : decode cX6_readClause 5 = .ok (.iload_n 1, 1) := by decide +kernel
theorem dX6_readClause_6 : decode cX6_readClause 6 = .ok (.invokestatic 89, 3) := by decide +kernel
theorem dX6_readClause_9 : decode cX6_readClause 9 = .ok (.ifCond .ne 11, 3) := by decide +kernel
theorem dX6_readClause_12 : decode cX6_readClause 12 = .ok (.aload_n 0, 1) := by decide +kernel
theorem dX6_readClause_13 : decode cX6_readClause 13 = .ok (.iconst 1, 1) := by decide +kernel
theorem dX6_readClause_14 : decode cX6_readClause 14 = .ok (.invokevirtual 93, 3) := by decide +kernel
theorem dX6_readClause_17 : decode cX6_readClause 17 = .ok (.goto 148, 3) := by decide +kernel
theorem dX6_readClause_20 : decode cX6_readClause 20 = .ok (.iload_n 1, 1) := by decide +kernel
theorem dX6_readClause_21 : decode cX6_readClause 21 = .ok (.invokestatic 97, 3) := by decide +kernel
theorem dX6_readClause_24 : decode cX6_readClause 24 = .ok (.ifCond .eq 29, 3) := by decide +kernel
theorem dX6_readClause_27 : decode cX6_readClause 27 = .ok (.aload_n 0, 1) := by decide +kernel
theorem dX6_readClause_28 : decode cX6_readClause 28 = .ok (.getfield 31, 3) := by decide +kernel
theorem dX6_readClause_31 : decode cX6_readClause 31 = .ok (.iload_n 1, 1) := by decide +kernel
theorem dX6_readClause_32 : decode cX6_readClause 32 = .ok (.bipush 12, 2) := by decide +kernel
theorem dX6_readClause_34 : decode cX6_readClause 34 = .ok (.isub, 1) := by decide +kernel
theorem dX6_readClause_35 : decode cX6_readClause 35 = .ok (.iconst 2, 1) := by decide +kernel
theorem dX6_readClause_36 : decode cX6_readClause 36 = .ok (.imul, 1) := by decide +kernel
theorem dX6_readClause_37 : decode cX6_readClause 37 = .ok (.iconst 1, 1) := by decide +kernel
theorem dX6_readClause_38 : decode cX6_readClause 38 = .ok (.iadd, 1) := by decide +kernel
theorem dX6_readClause_39 : decode cX6_readClause 39 = .ok (.invokestatic 100, 3) := by decide +kernel
theorem dX6_readClause_42 : decode cX6_readClause 42 = .ok (.ifCond .le 11, 3) := by decide +kernel
theorem dX6_readClause_45 : decode cX6_readClause 45 = .ok (.aload_n 0, 1) := by decide +kernel
theorem dX6_readClause_46 : decode cX6_readClause 46 = .ok (.iconst 4, 1) := by decide +kernel
theorem dX6_readClause_47 : decode cX6_readClause 47 = .ok (.invokevirtual 93, 3) := by decide +kernel
theorem dX6_readClause_50 : decode cX6_readClause 50 = .ok (.goto 115, 3) := by decide +kernel
theorem dX6_readClause_53 : decode cX6_readClause 53 = .ok (.aload_n 0, 1) := by decide +kernel
theorem dX6_readClause_54 : decode cX6_readClause 54 = .ok (.getfield 44, 3) := by decide +kernel
theorem dX6_readClause_57 : decode cX6_readClause 57 = .ok (.bipush 24, 2) := by decide +kernel
theorem dX6_readClause_59 : decode cX6_readClause 59 = .ok (.if_icmp .lt 12, 3) := by decide +kernel
theorem dX6_readClause_62 : decode cX6_readClause 62 = .ok (.aload_n 0, 1) := by decide +kernel
theorem dX6_readClause_63 : decode cX6_readClause 63 = .ok (.bipush 6, 2) := by decide +kernel
theorem dX6_readClause_65 : decode cX6_readClause 65 = .ok (.invokevirtual 93, 3) := by decide +kernel
theorem dX6_readClause_68 : decode cX6_readClause 68 = .ok (.goto 97, 3) := by decide +kernel
theorem dX6_readClause_71 : decode cX6_readClause 71 = .ok (.aload_n 0, 1) := by decide +kernel
theorem dX6_readClause_72 : decode cX6_readClause 72 = .ok (.getfield 25, 3) := by decide +kernel
theorem dX6_readClause_75 : decode cX6_readClause 75 = .ok (.aload_n 0, 1) := by decide +kernel
theorem dX6_readClause_76 : decode cX6_readClause 76 = .ok (.getfield 44, 3) := by decide +kernel
theorem dX6_readClause_79 : decode cX6_readClause 79 = .ok (.iconst 4, 1) := by decide +kernel
theorem dX6_readClause_80 : decode cX6_readClause 80 = .ok (.imul, 1) := by decide +kernel
theorem dX6_readClause_81 : decode cX6_readClause 81 = .ok (.iload_n 1, 1) := by decide +kernel
theorem dX6_readClause_82 : decode cX6_readClause 82 = .ok (.invokestatic 34, 3) := by decide +kernel
theorem dX6_readClause_85 : decode cX6_readClause 85 = .ok (.aload_n 0, 1) := by decide +kernel
theorem dX6_readClause_86 : decode cX6_readClause 86 = .ok (.invokevirtual 59, 3) := by decide +kernel
theorem dX6_readClause_89 : decode cX6_readClause 89 = .ok (.iload_n 1, 1) := by decide +kernel
theorem dX6_readClause_90 : decode cX6_readClause 90 = .ok (.invokestatic 97, 3) := by decide +kernel
theorem dX6_readClause_93 : decode cX6_readClause 93 = .ok (.ifCond .eq 51, 3) := by decide +kernel
theorem dX6_readClause_96 : decode cX6_readClause 96 = .ok (.aload_n 0, 1) := by decide +kernel
theorem dX6_readClause_97 : decode cX6_readClause 97 = .ok (.iload_n 1, 1) := by decide +kernel
theorem dX6_readClause_98 : decode cX6_readClause 98 = .ok (.putfield 104, 3) := by decide +kernel
theorem dX6_readClause_101 : decode cX6_readClause 101 = .ok (.aload_n 0, 1) := by decide +kernel
theorem dX6_readClause_102 : decode cX6_readClause 102 = .ok (.getfield 31, 3) := by decide +kernel
theorem dX6_readClause_105 : decode cX6_readClause 105 = .ok (.iload_n 1, 1) := by decide +kernel
theorem dX6_readClause_106 : decode cX6_readClause 106 = .ok (.bipush 12, 2) := by decide +kernel
theorem dX6_readClause_108 : decode cX6_readClause 108 = .ok (.isub, 1) := by decide +kernel
theorem dX6_readClause_109 : decode cX6_readClause 109 = .ok (.iconst 2, 1) := by decide +kernel
theorem dX6_readClause_110 : decode cX6_readClause 110 = .ok (.imul, 1) := by decide +kernel
theorem dX6_readClause_111 : decode cX6_readClause 111 = .ok (.aload_n 0, 1) := by decide +kernel
theorem dX6_readClause_112 : decode cX6_readClause 112 = .ok (.getfield 47, 3) := by decide +kernel
theorem dX6_readClause_115 : decode cX6_readClause 115 = .ok (.invokestatic 34, 3) := by decide +kernel
theorem dX6_readClause_118 : decode cX6_readClause 118 = .ok (.aload_n 0, 1) := by decide +kernel
theorem dX6_readClause_119 : decode cX6_readClause 119 = .ok (.invokevirtual 107, 3) := by decide +kernel
theorem dX6_readClause_122 : decode cX6_readClause 122 = .ok (.aload_n 0, 1) := by decide +kernel
theorem dX6_readClause_123 : decode cX6_readClause 123 = .ok (.getfield 31, 3) := by decide +kernel
theorem dX6_readClause_126 : decode cX6_readClause 126 = .ok (.iload_n 1, 1) := by decide +kernel
theorem dX6_readClause_127 : decode cX6_readClause 127 = .ok (.bipush 12, 2) := by decide +kernel
theorem dX6_readClause_129 : decode cX6_readClause 129 = .ok (.isub, 1) := by decide +kernel
theorem dX6_readClause_130 : decode cX6_readClause 130 = .ok (.iconst 2, 1) := by decide +kernel
theorem dX6_readClause_131 : decode cX6_readClause 131 = .ok (.imul, 1) := by decide +kernel
theorem dX6_readClause_132 : decode cX6_readClause 132 = .ok (.iconst 1, 1) := by decide +kernel
theorem dX6_readClause_133 : decode cX6_readClause 133 = .ok (.iadd, 1) := by decide +kernel
theorem dX6_readClause_134 : decode cX6_readClause 134 = .ok (.aload_n 0, 1) := by decide +kernel
theorem dX6_readClause_135 : decode cX6_readClause 135 = .ok (.getfield 47, 3) := by decide +kernel
theorem dX6_readClause_138 : decode cX6_readClause 138 = .ok (.invokestatic 34, 3) := by decide +kernel
theorem dX6_readClause_141 : decode cX6_readClause 141 = .ok (.goto 8, 3) := by decide +kernel
theorem dX6_readClause_144 : decode cX6_readClause 144 = .ok (.aload_n 0, 1) := by decide +kernel
theorem dX6_readClause_145 : decode cX6_readClause 145 = .ok (.iload_n 1, 1) := by decide +kernel
theorem dX6_readClause_146 : decode cX6_readClause 146 = .ok (.invokevirtual 110, 3) := by decide +kernel
theorem dX6_readClause_149 : decode cX6_readClause 149 = .ok (.aload_n 0, 1) := by decide +kernel
theorem dX6_readClause_150 : decode cX6_readClause 150 = .ok (.bipush 45, 2) := by decide +kernel
theorem dX6_readClause_152 : decode cX6_readClause 152 = .ok (.invokevirtual 113, 3) := by decide +kernel
theorem dX6_readClause_155 : decode cX6_readClause 155 = .ok (.aload_n 0, 1) := by decide +kernel
theorem dX6_readClause_156 : decode cX6_readClause 156 = .ok (.dup, 1) := by decide +kernel
theorem dX6_readClause_157 : decode cX6_readClause 157 = .ok (.getfield 44, 3) := by decide +kernel
theorem dX6_readClause_160 : decode cX6_readClause 160 = .ok (.iconst 1, 1) := by decide +kernel
theorem dX6_readClause_161 : decode cX6_readClause 161 = .ok (.iadd, 1) := by decide +kernel
theorem dX6_readClause_162 : decode cX6_readClause 162 = .ok (.putfield 44, 3) := by decide +kernel
theorem dX6_readClause_165 : decode cX6_readClause 165 = .ok (.return_, 1) := by decide +kernel
theorem dX6_isLaw_0 : decode cX6_isLaw 0 = .ok (.iload_n 0, 1) := by decide +kernel
theorem dX6_isLaw_1 : decode cX6_isLaw 1 = .ok (.bipush 12, 2) := by decide +kernel
theorem dX6_isLaw_3 : decode cX6_isLaw 3 = .ok (.if_icmp .lt 13, 3) := by decide +kernel
theorem dX6_isLaw_6 : decode cX6_isLaw 6 = .ok (.iload_n 0, 1) := by decide +kernel
theorem dX6_isLaw_7 : decode cX6_isLaw 7 = .ok (.bipush 14, 2) := by decide +kernel
theorem dX6_isLaw_9 : decode cX6_isLaw 9 = .ok (.if_icmp .gt 7, 3) := by decide +kernel
theorem dX6_isLaw_12 : decode cX6_isLaw 12 = .ok (.iconst 1, 1) := by decide +kernel
theorem dX6_isLaw_13 : decode cX6_isLaw 13 = .ok (.goto 4, 3) := by decide +kernel
theorem dX6_isLaw_16 : decode cX6_isLaw 16 = .ok (.iconst 0, 1) := by decide +kernel
theorem dX6_isLaw_17 : decode cX6_isLaw 17 = .ok (.ireturn, 1) := by decide +kernel
theorem dX6_beginsClause_0 : decode cX6_beginsClause 0 = .ok (.iload_n 0, 1) := by decide +kernel
theorem dX6_beginsClause_1 : decode cX6_beginsClause 1 = .ok (.ifCond .eq 31, 3) := by decide +kernel
theorem dX6_beginsClause_4 : decode cX6_beginsClause 4 = .ok (.iload_n 0, 1) := by decide +kernel
theorem dX6_beginsClause_5 : decode cX6_beginsClause 5 = .ok (.iconst 3, 1) := by decide +kernel
theorem dX6_beginsClause_6 : decode cX6_beginsClause 6 = .ok (.if_icmp .eq 26, 3) := by decide +kernel
theorem dX6_beginsClause_9 : decode cX6_beginsClause 9 = .ok (.iload_n 0, 1) := by decide +kernel
theorem dX6_beginsClause_10 : decode cX6_beginsClause 10 = .ok (.iconst 5, 1) := by decide +kernel
theorem dX6_beginsClause_11 : decode cX6_beginsClause 11 = .ok (.if_icmp .eq 21, 3) := by decide +kernel
theorem dX6_beginsClause_14 : decode cX6_beginsClause 14 = .ok (.iload_n 0, 1) := by decide +kernel
theorem dX6_beginsClause_15 : decode cX6_beginsClause 15 = .ok (.bipush 9, 2) := by decide +kernel
theorem dX6_beginsClause_17 : decode cX6_beginsClause 17 = .ok (.if_icmp .eq 15, 3) := by decide +kernel
theorem dX6_beginsClause_20 : decode cX6_beginsClause 20 = .ok (.iload_n 0, 1) := by decide +kernel
theorem dX6_beginsClause_21 : decode cX6_beginsClause 21 = .ok (.bipush 12, 2) := by decide +kernel
theorem dX6_beginsClause_23 : decode cX6_beginsClause 23 = .ok (.if_icmp .lt 13, 3) := by decide +kernel
theorem dX6_beginsClause_26 : decode cX6_beginsClause 26 = .ok (.iload_n 0, 1) := by decide +kernel
theorem dX6_beginsClause_27 : decode cX6_beginsClause 27 = .ok (.bipush 17, 2) := by decide +kernel
theorem dX6_beginsClause_29 : decode cX6_beginsClause 29 = .ok (.if_icmp .gt 7, 3) := by decide +kernel
theorem dX6_beginsClause_32 : decode cX6_beginsClause 32 = .ok (.iconst 1, 1) := by decide +kernel
theorem dX6_beginsClause_33 : decode cX6_beginsClause 33 = .ok (.goto 4, 3) := by decide +kernel
theorem dX6_beginsClause_36 : decode cX6_beginsClause 36 = .ok (.iconst 0, 1) := by decide +kernel
theorem dX6_beginsClause_37 : decode cX6_beginsClause 37 = .ok (.ireturn, 1) := by decide +kernel
set_option maxRecDepth 20000 in
theorem ggX6_readDeed_X6_readNumber : GoodIn wsX6_readDeed wsX6_readNumber := goodIn_r _ [5, 6, 7, 8, 9, 10, 11, 12, 4, 13, 14, 15, 16, 17, 18, 19, 20, 21, 22, 23, 24, 25, 26, 27, 28, 29, 30, 31, 32, 33, 34, 35, 36, 37, 38, 39, 40, 41, 42, 43, 44, 45, 46, 47, 48, 49, 50, 51, 52, 53, 54, 55, 56, 57, 58, 59, 60, 61, 62, 63, 64, 65, 66, 67, 68, 69, 70, 71, 72, 73, 74, 75, 76, 77, 78, 79, 80, 81, 82, 83, 84, 85, 86, 87, 88, 89, 90, 91, 92, 93, 94, 95, 96, 97, 98, 99, 100, 101, 102, 103, 104, 105, 106, 111, 112, 113, 114, 115, 116, 117, 118, 119, 120, 121, 122, 123, 124, 125, 126] rfl (by decide +kernel)
set_option maxRecDepth 20000 in
theorem gX6_readDeed_X6_readNumber : GoodIn wsX6_readDeed (wsV RX6 116 RX6 yX6_readNumber wsX6_readNumber) := goodIn_app (goodIn_of _ (by decide +kernel)) ggX6_readDeed_X6_readNumber
set_option maxRecDepth 20000 in
theorem ggX6_readDeed_X6_expect : GoodIn wsX6_readDeed wsX6_expect := goodIn_r _ [110, 6, 20, 21, 22, 4, 23, 14, 24, 25, 26, 27, 28, 16, 29, 30, 31, 32, 33, 34, 35, 36, 37, 38, 39, 40, 41, 42, 43, 44, 45, 46, 47, 48, 49, 50, 51, 52, 53, 54, 55, 56, 57, 58, 59, 60, 61, 62, 63, 64, 65, 66, 67, 68, 69, 70, 71, 72, 73, 74, 75, 76, 77, 78, 79, 80, 81, 82, 83, 84, 85, 86, 87, 88, 89, 90, 91, 92, 93, 94, 95, 7, 96, 97, 98, 99, 100, 101, 102, 103, 104, 105, 106, 10, 11, 12, 13, 111, 112, 113, 114, 115, 116, 117, 118, 119, 120, 121, 122, 123, 124, 125, 126] rfl (by decide +kernel)
set_option maxRecDepth 20000 in
theorem gX6_readDeed_X6_expect : GoodIn wsX6_readDeed (wsV RX6 113 RX6 yX6_expect wsX6_expect) := goodIn_app (goodIn_of _ (by decide +kernel)) ggX6_readDeed_X6_expect
theorem dX6_readDeed_0 : decode cX6_readDeed 0 = .ok (.iload_n 1, 1) := by decide +kernel
theorem dX6_readDeed_1 : decode cX6_readDeed 1 = .ok (.tableswitch 217 3 17 #[123, 217, 75, 217, 217, 217, 184, 217, 217, 217, 217, 217, 98, 161, 207], 75) := by decide +kernel
theorem dX6_readDeed_76 : decode cX6_readDeed 76 = .ok (.aload_n 0, 1) := by decide +kernel
theorem dX6_readDeed_77 : decode cX6_readDeed 77 = .ok (.iconst 1, 1) := by decide +kernel
theorem dX6_readDeed_78 : decode cX6_readDeed 78 = .ok (.iconst 0, 1) := by decide +kernel
theorem dX6_readDeed_79 : decode cX6_readDeed 79 = .ok (.iconst 3, 1) := by decide +kernel
theorem dX6_readDeed_80 : decode cX6_readDeed 80 = .ok (.invokevirtual 116, 3) := by decide +kernel
theorem dX6_readDeed_83 : decode cX6_readDeed 83 = .ok (.aload_n 0, 1) := by decide +kernel
theorem dX6_readDeed_84 : decode cX6_readDeed 84 = .ok (.iconst 2, 1) := by decide +kernel
theorem dX6_readDeed_85 : decode cX6_readDeed 85 = .ok (.invokevirtual 113, 3) := by decide +kernel
theorem dX6_readDeed_88 : decode cX6_readDeed 88 = .ok (.aload_n 0, 1) := by decide +kernel
theorem dX6_readDeed_89 : decode cX6_readDeed 89 = .ok (.iconst 2, 1) := by decide +kernel
theorem dX6_readDeed_90 : decode cX6_readDeed 90 = .ok (.iconst 0, 1) := by decide +kernel
theorem dX6_readDeed_91 : decode cX6_readDeed 91 = .ok (.bipush 99, 2) := by decide +kernel
theorem dX6_readDeed_93 : decode cX6_readDeed 93 = .ok (.invokevirtual 116, 3) := by decide +kernel
theorem dX6_readDeed_96 : decode cX6_readDeed 96 = .ok (.goto 130, 3) := by decide +kernel
theorem dX6_readDeed_99 : decode cX6_readDeed 99 = .ok (.aload_n 0, 1) := by decide +kernel
theorem dX6_readDeed_100 : decode cX6_readDeed 100 = .ok (.iconst 1, 1) := by decide +kernel
theorem dX6_readDeed_101 : decode cX6_readDeed 101 = .ok (.iconst 1, 1) := by decide +kernel
theorem dX6_readDeed_102 : decode cX6_readDeed 102 = .ok (.bipush 9, 2) := by decide +kernel
theorem dX6_readDeed_104 : decode cX6_readDeed 104 = .ok (.invokevirtual 116, 3) := by decide +kernel
theorem dX6_readDeed_107 : decode cX6_readDeed 107 = .ok (.aload_n 0, 1) := by decide +kernel
theorem dX6_readDeed_108 : decode cX6_readDeed 108 = .ok (.bipush 7, 2) := by decide +kernel
theorem dX6_readDeed_110 : decode cX6_readDeed 110 = .ok (.invokevirtual 113, 3) := by decide +kernel
theorem dX6_readDeed_113 : decode cX6_readDeed 113 = .ok (.aload_n 0, 1) := by decide +kernel
theorem dX6_readDeed_114 : decode cX6_readDeed 114 = .ok (.iconst 2, 1) := by decide +kernel
theorem dX6_readDeed_115 : decode cX6_readDeed 115 = .ok (.iconst 0, 1) := by decide +kernel
theorem dX6_readDeed_116 : decode cX6_readDeed 116 = .ok (.bipush 99, 2) := by decide +kernel
theorem dX6_readDeed_118 : decode cX6_readDeed 118 = .ok (.invokevirtual 116, 3) := by decide +kernel
theorem dX6_readDeed_121 : decode cX6_readDeed 121 = .ok (.goto 105, 3) := by decide +kernel
theorem dX6_readDeed_124 : decode cX6_readDeed 124 = .ok (.aload_n 0, 1) := by decide +kernel
theorem dX6_readDeed_125 : decode cX6_readDeed 125 = .ok (.iconst 1, 1) := by decide +kernel
theorem dX6_readDeed_126 : decode cX6_readDeed 126 = .ok (.iconst 0, 1) := by decide +kernel
theorem dX6_readDeed_127 : decode cX6_readDeed 127 = .ok (.bipush 9, 2) := by decide +kernel
theorem dX6_readDeed_129 : decode cX6_readDeed 129 = .ok (.invokevirtual 116, 3) := by decide +kernel
theorem dX6_readDeed_132 : decode cX6_readDeed 132 = .ok (.aload_n 0, 1) := by decide +kernel
theorem dX6_readDeed_133 : decode cX6_readDeed 133 = .ok (.bipush 18, 2) := by decide +kernel
theorem dX6_readDeed_135 : decode cX6_readDeed 135 = .ok (.invokevirtual 113, 3) := by decide +kernel
theorem dX6_readDeed_138 : decode cX6_readDeed 138 = .ok (.aload_n 0, 1) := by decide +kernel
theorem dX6_readDeed_139 : decode cX6_readDeed 139 = .ok (.iconst 2, 1) := by decide +kernel
theorem dX6_readDeed_140 : decode cX6_readDeed 140 = .ok (.iconst 0, 1) := by decide +kernel
theorem dX6_readDeed_141 : decode cX6_readDeed 141 = .ok (.iconst 4, 1) := by decide +kernel
theorem dX6_readDeed_142 : decode cX6_readDeed 142 = .ok (.invokevirtual 116, 3) := by decide +kernel
theorem dX6_readDeed_145 : decode cX6_readDeed 145 = .ok (.aload_n 0, 1) := by decide +kernel
theorem dX6_readDeed_146 : decode cX6_readDeed 146 = .ok (.bipush 19, 2) := by decide +kernel
theorem dX6_readDeed_148 : decode cX6_readDeed 148 = .ok (.invokevirtual 113, 3) := by decide +kernel
theorem dX6_readDeed_151 : decode cX6_readDeed 151 = .ok (.aload_n 0, 1) := by decide +kernel
theorem dX6_readDeed_152 : decode cX6_readDeed 152 = .ok (.iconst 3, 1) := by decide +kernel
theorem dX6_readDeed_153 : decode cX6_readDeed 153 = .ok (.iconst 0, 1) := by decide +kernel
theorem dX6_readDeed_154 : decode cX6_readDeed 154 = .ok (.bipush 9, 2) := by decide +kernel
theorem dX6_readDeed_156 : decode cX6_readDeed 156 = .ok (.invokevirtual 116, 3) := by decide +kernel
theorem dX6_readDeed_159 : decode cX6_readDeed 159 = .ok (.goto 67, 3) := by decide +kernel
theorem dX6_readDeed_162 : decode cX6_readDeed 162 = .ok (.aload_n 0, 1) := by decide +kernel
theorem dX6_readDeed_163 : decode cX6_readDeed 163 = .ok (.iconst 1, 1) := by decide +kernel
theorem dX6_readDeed_164 : decode cX6_readDeed 164 = .ok (.iconst 0, 1) := by decide +kernel
theorem dX6_readDeed_165 : decode cX6_readDeed 165 = .ok (.iconst 4, 1) := by decide +kernel
theorem dX6_readDeed_166 : decode cX6_readDeed 166 = .ok (.invokevirtual 116, 3) := by decide +kernel
theorem dX6_readDeed_169 : decode cX6_readDeed 169 = .ok (.aload_n 0, 1) := by decide +kernel
theorem dX6_readDeed_170 : decode cX6_readDeed 170 = .ok (.bipush 19, 2) := by decide +kernel
theorem dX6_readDeed_172 : decode cX6_readDeed 172 = .ok (.invokevirtual 113, 3) := by decide +kernel
theorem dX6_readDeed_175 : decode cX6_readDeed 175 = .ok (.aload_n 0, 1) := by decide +kernel
theorem dX6_readDeed_176 : decode cX6_readDeed 176 = .ok (.iconst 2, 1) := by decide +kernel
theorem dX6_readDeed_177 : decode cX6_readDeed 177 = .ok (.iconst 0, 1) := by decide +kernel
theorem dX6_readDeed_178 : decode cX6_readDeed 178 = .ok (.iconst 5, 1) := by decide +kernel
theorem dX6_readDeed_179 : decode cX6_readDeed 179 = .ok (.invokevirtual 116, 3) := by decide +kernel
theorem dX6_readDeed_182 : decode cX6_readDeed 182 = .ok (.goto 44, 3) := by decide +kernel
theorem dX6_readDeed_185 : decode cX6_readDeed 185 = .ok (.aload_n 0, 1) := by decide +kernel
theorem dX6_readDeed_186 : decode cX6_readDeed 186 = .ok (.iconst 1, 1) := by decide +kernel
theorem dX6_readDeed_187 : decode cX6_readDeed 187 = .ok (.iconst 0, 1) := by decide +kernel
theorem dX6_readDeed_188 : decode cX6_readDeed 188 = .ok (.iconst 4, 1) := by decide +kernel
theorem dX6_readDeed_189 : decode cX6_readDeed 189 = .ok (.invokevirtual 116, 3) := by decide +kernel
theorem dX6_readDeed_192 : decode cX6_readDeed 192 = .ok (.aload_n 0, 1) := by decide +kernel
theorem dX6_readDeed_193 : decode cX6_readDeed 193 = .ok (.bipush 18, 2) := by decide +kernel
theorem dX6_readDeed_195 : decode cX6_readDeed 195 = .ok (.invokevirtual 113, 3) := by decide +kernel
theorem dX6_readDeed_198 : decode cX6_readDeed 198 = .ok (.aload_n 0, 1) := by decide +kernel
theorem dX6_readDeed_199 : decode cX6_readDeed 199 = .ok (.iconst 2, 1) := by decide +kernel
theorem dX6_readDeed_200 : decode cX6_readDeed 200 = .ok (.iconst 0, 1) := by decide +kernel
theorem dX6_readDeed_201 : decode cX6_readDeed 201 = .ok (.iconst 4, 1) := by decide +kernel
theorem dX6_readDeed_202 : decode cX6_readDeed 202 = .ok (.invokevirtual 116, 3) := by decide +kernel
theorem dX6_readDeed_205 : decode cX6_readDeed 205 = .ok (.goto 21, 3) := by decide +kernel
theorem dX6_readDeed_208 : decode cX6_readDeed 208 = .ok (.aload_n 0, 1) := by decide +kernel
theorem dX6_readDeed_209 : decode cX6_readDeed 209 = .ok (.iconst 1, 1) := by decide +kernel
theorem dX6_readDeed_210 : decode cX6_readDeed 210 = .ok (.iconst 0, 1) := by decide +kernel
theorem dX6_readDeed_211 : decode cX6_readDeed 211 = .ok (.iconst 4, 1) := by decide +kernel
theorem dX6_readDeed_212 : decode cX6_readDeed 212 = .ok (.invokevirtual 116, 3) := by decide +kernel
theorem dX6_readDeed_215 : decode cX6_readDeed 215 = .ok (.goto 11, 3) := by decide +kernel
theorem dX6_readDeed_218 : decode cX6_readDeed 218 = .ok (.aload_n 0, 1) := by decide +kernel
theorem dX6_readDeed_219 : decode cX6_readDeed 219 = .ok (.iconst 1, 1) := by decide +kernel
theorem dX6_readDeed_220 : decode cX6_readDeed 220 = .ok (.iconst 1, 1) := by decide +kernel
theorem dX6_readDeed_221 : decode cX6_readDeed 221 = .ok (.bipush 60, 2) := by decide +kernel
theorem dX6_readDeed_223 : decode cX6_readDeed 223 = .ok (.invokevirtual 116, 3) := by decide +kernel
theorem dX6_readDeed_226 : decode cX6_readDeed 226 = .ok (.return_, 1) := by decide +kernel
set_option maxRecDepth 20000 in
theorem ggX6_readNumber_X6_fail : GoodIn wsX6_readNumber wsX6_fail := goodIn_r _ [9, 10, 1, 103, 104, 105, 106, 107, 108, 109, 110, 111, 112, 113, 114, 115, 116, 117, 118] rfl (by decide +kernel)
set_option maxRecDepth 20000 in
theorem gX6_readNumber_X6_fail : GoodIn wsX6_readNumber (wsV RX6 93 RX6 yX6_fail wsX6_fail) := goodIn_app (goodIn_of _ (by decide +kernel)) ggX6_readNumber_X6_fail
set_option maxRecDepth 20000 in
theorem ggX6_readNumber_X11_within : GoodIn wsX6_readNumber wsX11_within := goodIn_r _ [13] rfl (by decide +kernel)
set_option maxRecDepth 20000 in
theorem gX6_readNumber_X11_within_n123 : GoodIn wsX6_readNumber (wsX11_within) := ggX6_readNumber_X11_within
set_option maxRecDepth 20000 in
theorem ggX6_readNumber_X11_put : GoodIn wsX6_readNumber wsX11_put := goodIn_r _ [15] rfl (by decide +kernel)
set_option maxRecDepth 20000 in
theorem gX6_readNumber_X11_put_n34 : GoodIn wsX6_readNumber (wsX11_put) := ggX6_readNumber_X11_put
set_option maxRecDepth 20000 in
theorem ggX6_readNumber_X6_advance : GoodIn wsX6_readNumber wsX6_advance := goodIn_r _ [19, 10, 20, 21, 22, 23, 1, 24, 12, 25, 26, 27, 8, 28, 29, 30, 31, 32, 33, 34, 35, 36, 37, 38, 39, 40, 41, 42, 43, 44, 45, 46, 47, 48, 49, 50, 51, 52, 53, 54, 55, 56, 57, 58, 59, 60, 61, 62, 63, 64, 65, 66, 67, 68, 69, 70, 71, 72, 73, 74, 75, 76, 77, 78, 79, 80, 81, 82, 83, 84, 85, 86, 87, 88, 89, 90, 91, 2, 92, 93, 94, 95, 96, 97, 98, 99, 100, 101, 102, 103, 104, 105, 106, 107, 108, 109, 110, 111, 112, 113, 114, 115, 116, 117, 118] rfl (by decide +kernel)
set_option maxRecDepth 20000 in
theorem gX6_readNumber_X6_advance : GoodIn wsX6_readNumber (wsV RX6 59 RX6 yX6_advance wsX6_advance) := goodIn_app (goodIn_of _ (by decide +kernel)) ggX6_readNumber_X6_advance
theorem dX6_readNumber_0 : decode cX6_readNumber 0 = .ok (.aload_n 0, 1) := by decide +kernel
theorem dX6_readNumber_1 : decode cX6_readNumber 1 = .ok (.getfield 62, 3) := by decide +kernel
theorem dX6_readNumber_4 : decode cX6_readNumber 4 = .ok (.bipush 32, 2) := by decide +kernel
theorem dX6_readNumber_6 : decode cX6_readNumber 6 = .ok (.if_icmp .eq 11, 3) := by decide +kernel
theorem dX6_readNumber_9 : decode cX6_readNumber 9 = .ok (.aload_n 0, 1) := by decide +kernel
theorem dX6_readNumber_10 : decode cX6_readNumber 10 = .ok (.iconst 1, 1) := by decide +kernel
theorem dX6_readNumber_11 : decode cX6_readNumber 11 = .ok (.invokevirtual 93, 3) := by decide +kernel
theorem dX6_readNumber_14 : decode cX6_readNumber 14 = .ok (.goto 46, 3) := by decide +kernel
theorem dX6_readNumber_17 : decode cX6_readNumber 17 = .ok (.aload_n 0, 1) := by decide +kernel
theorem dX6_readNumber_18 : decode cX6_readNumber 18 = .ok (.getfield 120, 3) := by decide +kernel
theorem dX6_readNumber_21 : decode cX6_readNumber 21 = .ok (.iload_n 2, 1) := by decide +kernel
theorem dX6_readNumber_22 : decode cX6_readNumber 22 = .ok (.iload_n 3, 1) := by decide +kernel
theorem dX6_readNumber_23 : decode cX6_readNumber 23 = .ok (.invokestatic 123, 3) := by decide +kernel
theorem dX6_readNumber_26 : decode cX6_readNumber 26 = .ok (.ifCond .ne 11, 3) := by decide +kernel
theorem dX6_readNumber_29 : decode cX6_readNumber 29 = .ok (.aload_n 0, 1) := by decide +kernel
theorem dX6_readNumber_30 : decode cX6_readNumber 30 = .ok (.iconst 2, 1) := by decide +kernel
theorem dX6_readNumber_31 : decode cX6_readNumber 31 = .ok (.invokevirtual 93, 3) := by decide +kernel
theorem dX6_readNumber_34 : decode cX6_readNumber 34 = .ok (.goto 26, 3) := by decide +kernel
theorem dX6_readNumber_37 : decode cX6_readNumber 37 = .ok (.aload_n 0, 1) := by decide +kernel
theorem dX6_readNumber_38 : decode cX6_readNumber 38 = .ok (.getfield 25, 3) := by decide +kernel
theorem dX6_readNumber_41 : decode cX6_readNumber 41 = .ok (.aload_n 0, 1) := by decide +kernel
theorem dX6_readNumber_42 : decode cX6_readNumber 42 = .ok (.getfield 44, 3) := by decide +kernel
theorem dX6_readNumber_45 : decode cX6_readNumber 45 = .ok (.iconst 4, 1) := by decide +kernel
theorem dX6_readNumber_46 : decode cX6_readNumber 46 = .ok (.imul, 1) := by decide +kernel
theorem dX6_readNumber_47 : decode cX6_readNumber 47 = .ok (.iload_n 1, 1) := by decide +kernel
theorem dX6_readNumber_48 : decode cX6_readNumber 48 = .ok (.iadd, 1) := by decide +kernel
theorem dX6_readNumber_49 : decode cX6_readNumber 49 = .ok (.aload_n 0, 1) := by decide +kernel
theorem dX6_readNumber_50 : decode cX6_readNumber 50 = .ok (.getfield 120, 3) := by decide +kernel
theorem dX6_readNumber_53 : decode cX6_readNumber 53 = .ok (.invokestatic 34, 3) := by decide +kernel
theorem dX6_readNumber_56 : decode cX6_readNumber 56 = .ok (.aload_n 0, 1) := by decide +kernel
theorem dX6_readNumber_57 : decode cX6_readNumber 57 = .ok (.invokevirtual 59, 3) := by decide +kernel
theorem dX6_readNumber_60 : decode cX6_readNumber 60 = .ok (.return_, 1) := by decide +kernel
set_option maxRecDepth 20000 in
theorem ggX6_readSum_X6_readProduct : GoodIn wsX6_readSum wsX6_readProduct := goodIn_r _ [149, 1, 138, 139, 140, 5, 6, 7, 8, 9, 10, 11, 12, 13, 14, 15, 16, 17, 18, 19, 20, 21, 22, 23, 24, 25, 26, 27, 28, 29, 30, 31, 32, 33, 34, 35, 36, 37, 38, 39, 40, 41, 42, 43, 44, 45, 46, 47, 48, 49, 50, 51, 52, 53, 54, 55, 56, 57, 58, 59, 60, 61, 62, 63, 64, 65, 66, 67, 68, 69, 70, 71, 72, 73, 74, 75, 76, 77, 78, 79, 80, 81, 82, 83, 84, 85, 86, 87, 88, 89, 90, 91, 92, 93, 94, 95, 96, 97, 98, 99, 100, 101, 102, 103, 104, 105, 106, 107, 108, 109, 110, 111, 112, 113, 114, 115, 116, 117, 118, 119, 120, 121, 122, 123, 124, 125, 126, 127, 128, 129, 130, 131, 132, 133, 134, 135, 136, 137, 141, 142, 143, 144, 145, 146, 147, 148, 0, 2, 3, 4, 150, 151, 152, 153, 154, 155, 156, 157, 158, 159, 160, 161, 162, 163, 164, 165] rfl (by decide +kernel)
set_option maxRecDepth 20000 in
theorem gX6_readSum_X6_readProduct : GoodIn wsX6_readSum (wsV RX6 127 RX6 yX6_readProduct wsX6_readProduct) := goodIn_app (goodIn_of _ (by decide +kernel)) ggX6_readSum_X6_readProduct
set_option maxRecDepth 20000 in
theorem ggX6_readSum_X6_advance : GoodIn wsX6_readSum wsX6_advance := goodIn_r _ [9, 10, 11, 12, 13, 14, 1, 15, 16, 17, 18, 19, 5, 20, 21, 22, 23, 24, 25, 26, 27, 28, 29, 30, 31, 32, 33, 34, 35, 36, 37, 38, 39, 40, 41, 42, 43, 44, 45, 46, 47, 48, 49, 50, 51, 52, 53, 54, 55, 56, 57, 58, 59, 60, 61, 62, 63, 64, 65, 66, 67, 68, 69, 70, 71, 72, 73, 74, 75, 76, 77, 78, 79, 80, 81, 82, 83, 84, 85, 86, 87, 88, 89, 90, 91, 92, 93, 94, 95, 150, 151, 152, 153, 154, 155, 156, 157, 158, 159, 160, 161, 162, 163, 164, 165] rfl (by decide +kernel)
set_option maxRecDepth 20000 in
theorem gX6_readSum_X6_advance : GoodIn wsX6_readSum (wsV RX6 59 RX6 yX6_advance wsX6_advance) := goodIn_app (goodIn_of _ (by decide +kernel)) ggX6_readSum_X6_advance
set_option maxRecDepth 20000 in
theorem ggX6_readSum_X6_emit : GoodIn wsX6_readSum wsX6_emit := goodIn_r _ [99, 100, 101, 102, 16, 103, 150, 151, 152, 153, 154, 155, 156, 157, 158, 159, 160, 161, 162, 163, 164, 165] rfl (by decide +kernel)
set_option maxRecDepth 20000 in
theorem gX6_readSum_X6_emit : GoodIn wsX6_readSum (wsV RX6 130 RX6 yX6_emit wsX6_emit) := goodIn_app (goodIn_of _ (by decide +kernel)) ggX6_readSum_X6_emit
theorem dX6_readSum_0 : decode cX6_readSum 0 = .ok (.aload_n 0, 1) := by decide +kernel
theorem dX6_readSum_1 : decode cX6_readSum 1 = .ok (.invokevirtual 127, 3) := by decide +kernel
theorem dX6_readSum_4 : decode cX6_readSum 4 = .ok (.iconst 0, 1) := by decide +kernel
theorem dX6_readSum_5 : decode cX6_readSum 5 = .ok (.istore_n 1, 1) := by decide +kernel
theorem dX6_readSum_6 : decode cX6_readSum 6 = .ok (.iload_n 1, 1) := by decide +kernel
theorem dX6_readSum_7 : decode cX6_readSum 7 = .ok (.sipush 300, 3) := by decide +kernel
theorem dX6_readSum_10 : decode cX6_readSum 10 = .ok (.if_icmp .ge 46, 3) := by decide +kernel
theorem dX6_readSum_13 : decode cX6_readSum 13 = .ok (.aload_n 0, 1) := by decide +kernel
theorem dX6_readSum_14 : decode cX6_readSum 14 = .ok (.getfield 62, 3) := by decide +kernel
theorem dX6_readSum_17 : decode cX6_readSum 17 = .ok (.bipush 39, 2) := by decide +kernel
theorem dX6_readSum_19 : decode cX6_readSum 19 = .ok (.if_icmp .eq 12, 3) := by decide +kernel
theorem dX6_readSum_22 : decode cX6_readSum 22 = .ok (.aload_n 0, 1) := by decide +kernel
theorem dX6_readSum_23 : decode cX6_readSum 23 = .ok (.getfield 62, 3) := by decide +kernel
theorem dX6_readSum_26 : decode cX6_readSum 26 = .ok (.bipush 40, 2) := by decide +kernel
theorem dX6_readSum_28 : decode cX6_readSum 28 = .ok (.if_icmp .ne 28, 3) := by decide +kernel
theorem dX6_readSum_31 : decode cX6_readSum 31 = .ok (.aload_n 0, 1) := by decide +kernel
theorem dX6_readSum_32 : decode cX6_readSum 32 = .ok (.getfield 62, 3) := by decide +kernel
theorem dX6_readSum_35 : decode cX6_readSum 35 = .ok (.istore_n 2, 1) := by decide +kernel
theorem dX6_readSum_36 : decode cX6_readSum 36 = .ok (.aload_n 0, 1) := by decide +kernel
theorem dX6_readSum_37 : decode cX6_readSum 37 = .ok (.invokevirtual 59, 3) := by decide +kernel
theorem dX6_readSum_40 : decode cX6_readSum 40 = .ok (.aload_n 0, 1) := by decide +kernel
theorem dX6_readSum_41 : decode cX6_readSum 41 = .ok (.invokevirtual 127, 3) := by decide +kernel
theorem dX6_readSum_44 : decode cX6_readSum 44 = .ok (.aload_n 0, 1) := by decide +kernel
theorem dX6_readSum_45 : decode cX6_readSum 45 = .ok (.iload_n 2, 1) := by decide +kernel
theorem dX6_readSum_46 : decode cX6_readSum 46 = .ok (.iconst 0, 1) := by decide +kernel
theorem dX6_readSum_47 : decode cX6_readSum 47 = .ok (.invokevirtual 130, 3) := by decide +kernel
theorem dX6_readSum_50 : decode cX6_readSum 50 = .ok (.iinc 1 1, 3) := by decide +kernel
theorem dX6_readSum_53 : decode cX6_readSum 53 = .ok (.goto (-47), 3) := by decide +kernel
theorem dX6_readSum_56 : decode cX6_readSum 56 = .ok (.return_, 1) := by decide +kernel
set_option maxRecDepth 20000 in
theorem ggX6_readProduct_X6_readOne : GoodIn wsX6_readProduct wsX6_readOne := goodIn_r _ [133, 1, 105, 134, 135, 136, 5, 137, 84, 110, 111, 112, 113, 10, 96, 97, 98, 99, 100, 101, 102, 16, 103, 6, 7, 8, 9, 11, 12, 13, 14, 15, 17, 18, 19, 20, 21, 22, 23, 24, 25, 26, 27, 28, 29, 30, 31, 32, 33, 34, 35, 36, 37, 38, 39, 40, 41, 42, 43, 44, 45, 46, 47, 48, 49, 50, 51, 52, 53, 54, 55, 56, 57, 58, 59, 60, 61, 62, 63, 64, 65, 66, 67, 68, 69, 70, 71, 72, 73, 74, 75, 76, 77, 78, 79, 80, 81, 82, 83, 85, 86, 87, 88, 89, 90, 91, 92, 93, 94, 95, 106, 107, 108, 109, 117, 118, 119, 125, 126, 127, 128, 2, 3, 4, 138, 139, 140, 141, 142, 143, 144, 145, 104, 114, 115, 116, 120, 121, 122, 123, 124, 129, 130, 131, 132, 0, 146, 147, 148, 149, 150, 151, 152, 153, 154, 155, 156, 157, 158, 159, 160, 161, 162, 163, 164, 165] rfl (by decide +kernel)
set_option maxRecDepth 20000 in
theorem gX6_readProduct_X6_readOne : GoodIn wsX6_readProduct (wsV RX6 134 RX6 yX6_readOne wsX6_readOne) := goodIn_app (goodIn_of _ (by decide +kernel)) ggX6_readProduct_X6_readOne
set_option maxRecDepth 20000 in
theorem ggX6_readProduct_X6_advance : GoodIn wsX6_readProduct wsX6_advance := goodIn_r _ [9, 10, 11, 12, 13, 14, 1, 15, 16, 17, 18, 19, 5, 20, 21, 22, 23, 24, 25, 26, 27, 28, 29, 30, 31, 32, 33, 34, 35, 36, 37, 38, 39, 40, 41, 42, 43, 44, 45, 46, 47, 48, 49, 50, 51, 52, 53, 54, 55, 56, 57, 58, 59, 60, 61, 62, 63, 64, 65, 66, 67, 68, 69, 70, 71, 72, 73, 74, 75, 76, 77, 78, 79, 80, 81, 82, 83, 84, 85, 86, 87, 88, 89, 90, 91, 92, 93, 94, 95, 150, 151, 152, 153, 154, 155, 156, 157, 158, 159, 160, 161, 162, 163, 164, 165] rfl (by decide +kernel)
set_option maxRecDepth 20000 in
theorem gX6_readProduct_X6_advance : GoodIn wsX6_readProduct (wsV RX6 59 RX6 yX6_advance wsX6_advance) := goodIn_app (goodIn_of _ (by decide +kernel)) ggX6_readProduct_X6_advance
set_option maxRecDepth 20000 in
theorem ggX6_readProduct_X6_emit : GoodIn wsX6_readProduct wsX6_emit := goodIn_r _ [99, 100, 101, 102, 16, 103, 150, 151, 152, 153, 154, 155, 156, 157, 158, 159, 160, 161, 162, 163, 164, 165] rfl (by decide +kernel)
set_option maxRecDepth 20000 in
theorem gX6_readProduct_X6_emit : GoodIn wsX6_readProduct (wsV RX6 130 RX6 yX6_emit wsX6_emit) := goodIn_app (goodIn_of _ (by decide +kernel)) ggX6_readProduct_X6_emit
theorem dX6_readProduct_0 : decode cX6_readProduct 0 = .ok (.aload_n 0, 1) := by decide +kernel
theorem dX6_readProduct_1 : decode cX6_readProduct 1 = .ok (.invokevirtual 134, 3) := by decide +kernel
theorem dX6_readProduct_4 : decode cX6_readProduct 4 = .ok (.iconst 0, 1) := by decide +kernel
theorem dX6_readProduct_5 : decode cX6_readProduct 5 = .ok (.istore_n 1, 1) := by decide +kernel
theorem dX6_readProduct_6 : decode cX6_readProduct 6 = .ok (.iload_n 1, 1) := by decide +kernel
theorem dX6_readProduct_7 : decode cX6_readProduct 7 = .ok (.sipush 300, 3) := by decide +kernel
theorem dX6_readProduct_10 : decode cX6_readProduct 10 = .ok (.if_icmp .ge 46, 3) := by decide +kernel
theorem dX6_readProduct_13 : decode cX6_readProduct 13 = .ok (.aload_n 0, 1) := by decide +kernel
theorem dX6_readProduct_14 : decode cX6_readProduct 14 = .ok (.getfield 62, 3) := by decide +kernel
theorem dX6_readProduct_17 : decode cX6_readProduct 17 = .ok (.bipush 41, 2) := by decide +kernel
theorem dX6_readProduct_19 : decode cX6_readProduct 19 = .ok (.if_icmp .eq 12, 3) := by decide +kernel
theorem dX6_readProduct_22 : decode cX6_readProduct 22 = .ok (.aload_n 0, 1) := by decide +kernel
theorem dX6_readProduct_23 : decode cX6_readProduct 23 = .ok (.getfield 62, 3) := by decide +kernel
theorem dX6_readProduct_26 : decode cX6_readProduct 26 = .ok (.bipush 42, 2) := by decide +kernel
theorem dX6_readProduct_28 : decode cX6_readProduct 28 = .ok (.if_icmp .ne 28, 3) := by decide +kernel
theorem dX6_readProduct_31 : decode cX6_readProduct 31 = .ok (.aload_n 0, 1) := by decide +kernel
theorem dX6_readProduct_32 : decode cX6_readProduct 32 = .ok (.getfield 62, 3) := by decide +kernel
theorem dX6_readProduct_35 : decode cX6_readProduct 35 = .ok (.istore_n 2, 1) := by decide +kernel
theorem dX6_readProduct_36 : decode cX6_readProduct 36 = .ok (.aload_n 0, 1) := by decide +kernel
theorem dX6_readProduct_37 : decode cX6_readProduct 37 = .ok (.invokevirtual 59, 3) := by decide +kernel
theorem dX6_readProduct_40 : decode cX6_readProduct 40 = .ok (.aload_n 0, 1) := by decide +kernel
theorem dX6_readProduct_41 : decode cX6_readProduct 41 = .ok (.invokevirtual 134, 3) := by decide +kernel
theorem dX6_readProduct_44 : decode cX6_readProduct 44 = .ok (.aload_n 0, 1) := by decide +kernel
theorem dX6_readProduct_45 : decode cX6_readProduct 45 = .ok (.iload_n 2, 1) := by decide +kernel
theorem dX6_readProduct_46 : decode cX6_readProduct 46 = .ok (.iconst 0, 1) := by decide +kernel
theorem dX6_readProduct_47 : decode cX6_readProduct 47 = .ok (.invokevirtual 130, 3) := by decide +kernel
theorem dX6_readProduct_50 : decode cX6_readProduct 50 = .ok (.iinc 1 1, 3) := by decide +kernel
theorem dX6_readProduct_53 : decode cX6_readProduct 53 = .ok (.goto (-47), 3) := by decide +kernel
theorem dX6_readProduct_56 : decode cX6_readProduct 56 = .ok (.return_, 1) := by decide +kernel
set_option maxRecDepth 20000 in
theorem ggX6_readOne_X6_readPlainNumber : GoodIn wsX6_readOne wsX6_readPlainNumber := goodIn_r _ [7, 8, 9, 10, 11, 6, 12, 13, 1, 14, 15, 16, 17, 18, 19, 20, 21, 22, 23, 24, 25, 26, 27, 28, 29, 30, 31, 32, 33, 34, 35, 36, 37, 38, 39, 40, 41, 42, 43, 44, 45, 46, 47, 48, 49, 50, 51, 52, 53, 54, 55, 56, 57, 58, 59, 60, 61, 62, 63, 64, 65, 66, 67, 68, 69, 70, 71, 72, 73, 74, 75, 76, 77, 78, 79, 80, 81, 82, 83, 84, 85, 86, 87, 88, 89, 90, 91, 92, 93, 94, 95, 96, 97, 98, 99, 100, 101, 102, 103, 104, 105, 106, 107, 108, 109, 150, 151, 152, 153, 154, 155, 156, 157, 158, 159, 160, 161, 162, 163, 164, 165] rfl (by decide +kernel)
set_option maxRecDepth 20000 in
theorem gX6_readOne_X6_readPlainNumber : GoodIn wsX6_readOne (wsV RX6 137 RX6 yX6_readPlainNumber wsX6_readPlainNumber) := goodIn_app (goodIn_of _ (by decide +kernel)) ggX6_readOne_X6_readPlainNumber
set_option maxRecDepth 20000 in
theorem ggX6_readOne_X6_opens : GoodIn wsX6_readOne wsX6_opens := goodIn_r _ [113, 2, 9, 10, 11, 6, 12, 13, 1, 23, 24, 25, 26, 27, 28, 29, 30, 31, 21, 32, 33, 34, 35, 36, 37, 38, 39, 40, 41, 42, 43, 44, 45, 46, 47, 48, 49, 50, 51, 52, 53, 54, 55, 56, 57, 58, 59, 60, 61, 62, 63, 64, 65, 66, 67, 68, 69, 70, 71, 72, 73, 74, 75, 76, 77, 78, 79, 80, 81, 82, 83, 84, 85, 86, 87, 88, 89, 90, 91, 92, 93, 94, 95, 96, 97, 98, 8, 99, 100, 101, 102, 103, 104, 105, 106, 107, 108, 109, 150, 151, 152, 153, 154, 155, 156, 157, 158, 159, 160, 161, 162, 163, 164, 165] rfl (by decide +kernel)
set_option maxRecDepth 20000 in
theorem gX6_readOne_X6_opens : GoodIn wsX6_readOne (wsV RX6 140 RX6 yX6_opens wsX6_opens) := goodIn_app (goodIn_of _ (by decide +kernel)) ggX6_readOne_X6_opens
set_option maxRecDepth 20000 in
theorem ggX6_readOne_X6_readSum : GoodIn wsX6_readOne wsX6_readSum := goodIn_r _ [146, 1, 147, 148, 149, 6, 23, 24, 25, 26, 13, 27, 28, 29, 30, 31, 21, 32, 33, 34, 35, 36, 37, 38, 39, 40, 41, 42, 43, 44, 45, 46, 47, 48, 49, 50, 51, 52, 53, 54, 55, 56, 57, 58, 59, 60, 61, 62, 63, 64, 65, 66, 67, 68, 69, 70, 71, 72, 73, 74, 75, 76, 77, 78, 79, 80, 81, 82, 83, 84, 85, 86, 87, 88, 89, 90, 91, 92, 93, 94, 95, 96, 97, 98, 8, 99, 100, 101, 102, 103, 104, 105, 106, 107, 108, 109, 14, 15, 16, 17, 18, 19, 20, 22, 132, 2, 110, 111, 112, 113, 9, 10, 11, 12, 133, 134, 135, 114, 115, 116, 136, 137, 138, 139, 140, 117, 118, 119, 120, 141, 142, 143, 144, 0, 3, 4, 5, 7, 121, 122, 123, 124, 125, 126, 127, 128, 129, 130, 131, 145, 150, 151, 152, 153, 154, 155, 156, 157, 158, 159, 160, 161, 162, 163, 164, 165] rfl (by decide +kernel)
set_option maxRecDepth 20000 in
theorem gX6_readOne_X6_readSum : GoodIn wsX6_readOne (wsV RX6 107 RX6 yX6_readSum wsX6_readSum) := goodIn_app (goodIn_of _ (by decide +kernel)) ggX6_readOne_X6_readSum
set_option maxRecDepth 20000 in
theorem ggX6_readOne_X6_expect : GoodIn wsX6_readOne wsX6_expect := goodIn_r _ [120, 1, 23, 24, 25, 6, 26, 13, 27, 28, 29, 30, 31, 21, 32, 33, 34, 35, 36, 37, 38, 39, 40, 41, 42, 43, 44, 45, 46, 47, 48, 49, 50, 51, 52, 53, 54, 55, 56, 57, 58, 59, 60, 61, 62, 63, 64, 65, 66, 67, 68, 69, 70, 71, 72, 73, 74, 75, 76, 77, 78, 79, 80, 81, 82, 83, 84, 85, 86, 87, 88, 89, 90, 91, 92, 93, 94, 95, 96, 97, 98, 8, 99, 100, 101, 102, 103, 104, 105, 106, 107, 108, 109, 9, 10, 11, 12, 150, 151, 152, 153, 154, 155, 156, 157, 158, 159, 160, 161, 162, 163, 164, 165] rfl (by decide +kernel)
set_option maxRecDepth 20000 in
theorem gX6_readOne_X6_expect : GoodIn wsX6_readOne (wsV RX6 113 RX6 yX6_expect wsX6_expect) := goodIn_app (goodIn_of _ (by decide +kernel)) ggX6_readOne_X6_expect
set_option maxRecDepth 20000 in
theorem ggX6_readOne_X6_readOne : GoodIn wsX6_readOne wsX6_readOne := goodIn_r _ [0, 1, 2, 3, 4, 5, 6, 7, 8, 9, 10, 11, 12, 13, 14, 15, 16, 17, 18, 19, 20, 21, 22, 23, 24, 25, 26, 27, 28, 29, 30, 31, 32, 33, 34, 35, 36, 37, 38, 39, 40, 41, 42, 43, 44, 45, 46, 47, 48, 49, 50, 51, 52, 53, 54, 55, 56, 57, 58, 59, 60, 61, 62, 63, 64, 65, 66, 67, 68, 69, 70, 71, 72, 73, 74, 75, 76, 77, 78, 79, 80, 81, 82, 83, 84, 85, 86, 87, 88, 89, 90, 91, 92, 93, 94, 95, 96, 97, 98, 99, 100, 101, 102, 103, 104, 105, 106, 107, 108, 109, 110, 111, 112, 113, 114, 115, 116, 117, 118, 119, 120, 121, 122, 123, 124, 125, 126, 127, 128, 129, 130, 131, 132, 133, 134, 135, 136, 137, 138, 139, 140, 141, 142, 143, 144, 145, 146, 147, 148, 149, 150, 151, 152, 153, 154, 155, 156, 157, 158, 159, 160, 161, 162, 163, 164, 165] rfl (by decide +kernel)
set_option maxRecDepth 20000 in
theorem gX6_readOne_X6_readOne : GoodIn wsX6_readOne (wsV RX6 134 RX6 yX6_readOne wsX6_readOne) := goodIn_app (goodIn_of _ (by decide +kernel)) ggX6_readOne_X6_readOne
set_option maxRecDepth 20000 in
theorem ggX6_readOne_X6_emit : GoodIn wsX6_readOne wsX6_emit := goodIn_r _ [17, 18, 19, 20, 21, 22, 150, 151, 152, 153, 154, 155, 156, 157, 158, 159, 160, 161, 162, 163, 164, 165] rfl (by decide +kernel)
set_option maxRecDepth 20000 in
theorem gX6_readOne_X6_emit : GoodIn wsX6_readOne (wsV RX6 130 RX6 yX6_emit wsX6_emit) := goodIn_app (goodIn_of _ (by decide +kernel)) ggX6_readOne_X6_emit
set_option maxRecDepth 20000 in
theorem ggX6_readOne_X6_readChoice : GoodIn wsX6_readOne wsX6_readChoice := goodIn_r _ [137, 138, 139, 140, 6, 117, 118, 119, 120, 1, 23, 24, 25, 26, 13, 27, 28, 29, 30, 31, 21, 32, 33, 34, 35, 36, 37, 38, 39, 40, 41, 42, 43, 44, 45, 46, 47, 48, 49, 50, 51, 52, 53, 54, 55, 56, 57, 58, 59, 60, 61, 62, 63, 64, 65, 66, 67, 68, 69, 70, 71, 72, 73, 74, 75, 76, 77, 78, 79, 80, 81, 82, 83, 84, 85, 86, 87, 88, 89, 90, 91, 92, 93, 94, 95, 96, 97, 98, 8, 99, 100, 101, 102, 103, 104, 105, 106, 107, 108, 109, 9, 10, 11, 12, 114, 115, 116, 14, 15, 16, 17, 18, 19, 20, 22, 132, 2, 110, 111, 112, 113, 133, 134, 135, 136, 141, 142, 143, 144, 0, 3, 4, 5, 7, 121, 122, 123, 124, 125, 126, 127, 128, 129, 130, 131, 145, 146, 147, 148, 149, 150, 151, 152, 153, 154, 155, 156, 157, 158, 159, 160, 161, 162, 163, 164, 165] rfl (by decide +kernel)
set_option maxRecDepth 20000 in
theorem gX6_readOne_X6_readChoice : GoodIn wsX6_readOne (wsV RX6 144 RX6 yX6_readChoice wsX6_readChoice) := goodIn_app (goodIn_of _ (by decide +kernel)) ggX6_readOne_X6_readChoice
set_option maxRecDepth 20000 in
theorem ggX6_readOne_X6_readName : GoodIn wsX6_readOne wsX6_readName := goodIn_r _ [130, 1, 131, 9, 10, 11, 6, 12, 13, 14, 15, 16, 17, 18, 19, 20, 21, 22, 23, 24, 25, 26, 27, 28, 29, 30, 31, 32, 33, 34, 35, 36, 37, 38, 39, 40, 41, 42, 43, 44, 45, 46, 47, 48, 49, 50, 51, 52, 53, 54, 55, 56, 57, 58, 59, 60, 61, 62, 63, 64, 65, 66, 67, 68, 69, 70, 71, 72, 73, 74, 75, 76, 77, 78, 79, 80, 81, 82, 83, 84, 85, 86, 87, 88, 89, 90, 91, 92, 93, 94, 95, 96, 97, 98, 8, 99, 100, 101, 102, 103, 104, 105, 106, 107, 108, 109, 150, 151, 152, 153, 154, 155, 156, 157, 158, 159, 160, 161, 162, 163, 164, 165] rfl (by decide +kernel)
set_option maxRecDepth 20000 in
theorem gX6_readOne_X6_readName : GoodIn wsX6_readOne (wsV RX6 147 RX6 yX6_readName wsX6_readName) := goodIn_app (goodIn_of _ (by decide +kernel)) ggX6_readOne_X6_readName
theorem dX6_readOne_0 : decode cX6_readOne 0 = .ok (.aload_n 0, 1) := by decide +kernel
theorem dX6_readOne_1 : decode cX6_readOne 1 = .ok (.getfield 62, 3) := by decide +kernel
theorem dX6_readOne_4 : decode cX6_readOne 4 = .ok (.lookupswitch 234 #[(20, 128), (22, 179), (23, 210), (32, 60), (40, 97), (43, 67)], 60) := by decide +kernel
theorem dX6_readOne_64 : decode cX6_readOne 64 = .ok (.aload_n 0, 1) := by decide +kernel
theorem dX6_readOne_65 : decode cX6_readOne 65 = .ok (.invokevirtual 137, 3) := by decide +kernel
theorem dX6_readOne_68 : decode cX6_readOne 68 = .ok (.goto 174, 3) := by decide +kernel
theorem dX6_readOne_71 : decode cX6_readOne 71 = .ok (.aload_n 0, 1) := by decide +kernel
theorem dX6_readOne_72 : decode cX6_readOne 72 = .ok (.invokevirtual 140, 3) := by decide +kernel
theorem dX6_readOne_75 : decode cX6_readOne 75 = .ok (.ifCond .eq 167, 3) := by decide +kernel
theorem dX6_readOne_78 : decode cX6_readOne 78 = .ok (.aload_n 0, 1) := by decide +kernel
theorem dX6_readOne_79 : decode cX6_readOne 79 = .ok (.invokevirtual 107, 3) := by decide +kernel
theorem dX6_readOne_82 : decode cX6_readOne 82 = .ok (.aload_n 0, 1) := by decide +kernel
theorem dX6_readOne_83 : decode cX6_readOne 83 = .ok (.bipush 44, 2) := by decide +kernel
theorem dX6_readOne_85 : decode cX6_readOne 85 = .ok (.invokevirtual 113, 3) := by decide +kernel
theorem dX6_readOne_88 : decode cX6_readOne 88 = .ok (.aload_n 0, 1) := by decide +kernel
theorem dX6_readOne_89 : decode cX6_readOne 89 = .ok (.dup, 1) := by decide +kernel
theorem dX6_readOne_90 : decode cX6_readOne 90 = .ok (.getfield 50, 3) := by decide +kernel
theorem dX6_readOne_93 : decode cX6_readOne 93 = .ok (.iconst 1, 1) := by decide +kernel
theorem dX6_readOne_94 : decode cX6_readOne 94 = .ok (.isub, 1) := by decide +kernel
theorem dX6_readOne_95 : decode cX6_readOne 95 = .ok (.putfield 50, 3) := by decide +kernel
theorem dX6_readOne_98 : decode cX6_readOne 98 = .ok (.goto 144, 3) := by decide +kernel
theorem dX6_readOne_101 : decode cX6_readOne 101 = .ok (.aload_n 0, 1) := by decide +kernel
theorem dX6_readOne_102 : decode cX6_readOne 102 = .ok (.invokevirtual 140, 3) := by decide +kernel
theorem dX6_readOne_105 : decode cX6_readOne 105 = .ok (.ifCond .eq 137, 3) := by decide +kernel
theorem dX6_readOne_108 : decode cX6_readOne 108 = .ok (.aload_n 0, 1) := by decide +kernel
theorem dX6_readOne_109 : decode cX6_readOne 109 = .ok (.invokevirtual 134, 3) := by decide +kernel
theorem dX6_readOne_112 : decode cX6_readOne 112 = .ok (.aload_n 0, 1) := by decide +kernel
theorem dX6_readOne_113 : decode cX6_readOne 113 = .ok (.bipush 46, 2) := by decide +kernel
theorem dX6_readOne_115 : decode cX6_readOne 115 = .ok (.iconst 0, 1) := by decide +kernel
theorem dX6_readOne_116 : decode cX6_readOne 116 = .ok (.invokevirtual 130, 3) := by decide +kernel
theorem dX6_readOne_119 : decode cX6_readOne 119 = .ok (.aload_n 0, 1) := by decide +kernel
theorem dX6_readOne_120 : decode cX6_readOne 120 = .ok (.dup, 1) := by decide +kernel
theorem dX6_readOne_121 : decode cX6_readOne 121 = .ok (.getfield 50, 3) := by decide +kernel
theorem dX6_readOne_124 : decode cX6_readOne 124 = .ok (.iconst 1, 1) := by decide +kernel
theorem dX6_readOne_125 : decode cX6_readOne 125 = .ok (.isub, 1) := by decide +kernel
theorem dX6_readOne_126 : decode cX6_readOne 126 = .ok (.putfield 50, 3) := by decide +kernel
theorem dX6_readOne_129 : decode cX6_readOne 129 = .ok (.goto 113, 3) := by decide +kernel
theorem dX6_readOne_132 : decode cX6_readOne 132 = .ok (.aload_n 0, 1) := by decide +kernel
theorem dX6_readOne_133 : decode cX6_readOne 133 = .ok (.invokevirtual 140, 3) := by decide +kernel
theorem dX6_readOne_136 : decode cX6_readOne 136 = .ok (.ifCond .eq 106, 3) := by decide +kernel
theorem dX6_readOne_139 : decode cX6_readOne 139 = .ok (.aload_n 0, 1) := by decide +kernel
theorem dX6_readOne_140 : decode cX6_readOne 140 = .ok (.invokevirtual 134, 3) := by decide +kernel
theorem dX6_readOne_143 : decode cX6_readOne 143 = .ok (.aload_n 0, 1) := by decide +kernel
theorem dX6_readOne_144 : decode cX6_readOne 144 = .ok (.bipush 21, 2) := by decide +kernel
theorem dX6_readOne_146 : decode cX6_readOne 146 = .ok (.invokevirtual 113, 3) := by decide +kernel
theorem dX6_readOne_149 : decode cX6_readOne 149 = .ok (.aload_n 0, 1) := by decide +kernel
theorem dX6_readOne_150 : decode cX6_readOne 150 = .ok (.invokevirtual 134, 3) := by decide +kernel
theorem dX6_readOne_153 : decode cX6_readOne 153 = .ok (.aload_n 0, 1) := by decide +kernel
theorem dX6_readOne_154 : decode cX6_readOne 154 = .ok (.bipush 19, 2) := by decide +kernel
theorem dX6_readOne_156 : decode cX6_readOne 156 = .ok (.invokevirtual 113, 3) := by decide +kernel
theorem dX6_readOne_159 : decode cX6_readOne 159 = .ok (.aload_n 0, 1) := by decide +kernel
theorem dX6_readOne_160 : decode cX6_readOne 160 = .ok (.invokevirtual 134, 3) := by decide +kernel
theorem dX6_readOne_163 : decode cX6_readOne 163 = .ok (.aload_n 0, 1) := by decide +kernel
theorem dX6_readOne_164 : decode cX6_readOne 164 = .ok (.bipush 20, 2) := by decide +kernel
theorem dX6_readOne_166 : decode cX6_readOne 166 = .ok (.iconst 0, 1) := by decide +kernel
theorem dX6_readOne_167 : decode cX6_readOne 167 = .ok (.invokevirtual 130, 3) := by decide +kernel
theorem dX6_readOne_170 : decode cX6_readOne 170 = .ok (.aload_n 0, 1) := by decide +kernel
theorem dX6_readOne_171 : decode cX6_readOne 171 = .ok (.dup, 1) := by decide +kernel
theorem dX6_readOne_172 : decode cX6_readOne 172 = .ok (.getfield 50, 3) := by decide +kernel
theorem dX6_readOne_175 : decode cX6_readOne 175 = .ok (.iconst 1, 1) := by decide +kernel
theorem dX6_readOne_176 : decode cX6_readOne 176 = .ok (.isub, 1) := by decide +kernel
theorem dX6_readOne_177 : decode cX6_readOne 177 = .ok (.putfield 50, 3) := by decide +kernel
theorem dX6_readOne_180 : decode cX6_readOne 180 = .ok (.goto 62, 3) := by decide +kernel
theorem dX6_readOne_183 : decode cX6_readOne 183 = .ok (.aload_n 0, 1) := by decide +kernel
theorem dX6_readOne_184 : decode cX6_readOne 184 = .ok (.invokevirtual 140, 3) := by decide +kernel
theorem dX6_readOne_187 : decode cX6_readOne 187 = .ok (.ifCond .eq 55, 3) := by decide +kernel
theorem dX6_readOne_190 : decode cX6_readOne 190 = .ok (.aload_n 0, 1) := by decide +kernel
theorem dX6_readOne_191 : decode cX6_readOne 191 = .ok (.invokevirtual 134, 3) := by decide +kernel
theorem dX6_readOne_194 : decode cX6_readOne 194 = .ok (.aload_n 0, 1) := by decide +kernel
theorem dX6_readOne_195 : decode cX6_readOne 195 = .ok (.bipush 22, 2) := by decide +kernel
theorem dX6_readOne_197 : decode cX6_readOne 197 = .ok (.iconst 0, 1) := by decide +kernel
theorem dX6_readOne_198 : decode cX6_readOne 198 = .ok (.invokevirtual 130, 3) := by decide +kernel
theorem dX6_readOne_201 : decode cX6_readOne 201 = .ok (.aload_n 0, 1) := by decide +kernel
theorem dX6_readOne_202 : decode cX6_readOne 202 = .ok (.dup, 1) := by decide +kernel
theorem dX6_readOne_203 : decode cX6_readOne 203 = .ok (.getfield 50, 3) := by decide +kernel
theorem dX6_readOne_206 : decode cX6_readOne 206 = .ok (.iconst 1, 1) := by decide +kernel
theorem dX6_readOne_207 : decode cX6_readOne 207 = .ok (.isub, 1) := by decide +kernel
theorem dX6_readOne_208 : decode cX6_readOne 208 = .ok (.putfield 50, 3) := by decide +kernel
theorem dX6_readOne_211 : decode cX6_readOne 211 = .ok (.goto 31, 3) := by decide +kernel
theorem dX6_readOne_214 : decode cX6_readOne 214 = .ok (.aload_n 0, 1) := by decide +kernel
theorem dX6_readOne_215 : decode cX6_readOne 215 = .ok (.invokevirtual 140, 3) := by decide +kernel
theorem dX6_readOne_218 : decode cX6_readOne 218 = .ok (.ifCond .eq 24, 3) := by decide +kernel
theorem dX6_readOne_221 : decode cX6_readOne 221 = .ok (.aload_n 0, 1) := by decide +kernel
theorem dX6_readOne_222 : decode cX6_readOne 222 = .ok (.invokevirtual 144, 3) := by decide +kernel
theorem dX6_readOne_225 : decode cX6_readOne 225 = .ok (.aload_n 0, 1) := by decide +kernel
theorem dX6_readOne_226 : decode cX6_readOne 226 = .ok (.dup, 1) := by decide +kernel
theorem dX6_readOne_227 : decode cX6_readOne 227 = .ok (.getfield 50, 3) := by decide +kernel
theorem dX6_readOne_230 : decode cX6_readOne 230 = .ok (.iconst 1, 1) := by decide +kernel
theorem dX6_readOne_231 : decode cX6_readOne 231 = .ok (.isub, 1) := by decide +kernel
theorem dX6_readOne_232 : decode cX6_readOne 232 = .ok (.putfield 50, 3) := by decide +kernel
theorem dX6_readOne_235 : decode cX6_readOne 235 = .ok (.goto 7, 3) := by decide +kernel
theorem dX6_readOne_238 : decode cX6_readOne 238 = .ok (.aload_n 0, 1) := by decide +kernel
theorem dX6_readOne_239 : decode cX6_readOne 239 = .ok (.invokevirtual 147, 3) := by decide +kernel
theorem dX6_readOne_242 : decode cX6_readOne 242 = .ok (.return_, 1) := by decide +kernel
set_option maxRecDepth 20000 in
theorem ggX6_readChoice_X6_readEither : GoodIn wsX6_readChoice wsX6_readEither := goodIn_r _ [125, 9, 126, 127, 128, 4, 10, 11, 12, 13, 14, 15, 16, 17, 18, 19, 20, 21, 22, 23, 24, 25, 26, 27, 28, 29, 30, 31, 32, 33, 34, 35, 36, 37, 38, 39, 40, 41, 42, 43, 44, 45, 46, 47, 48, 49, 50, 51, 52, 53, 54, 55, 56, 57, 58, 59, 60, 61, 62, 63, 64, 65, 66, 67, 68, 69, 70, 71, 72, 73, 74, 75, 76, 77, 78, 79, 80, 81, 82, 83, 84, 85, 86, 87, 88, 89, 90, 91, 92, 93, 94, 95, 96, 97, 98, 99, 107, 108, 109, 110, 111, 112, 113, 114, 115, 116, 117, 118, 119, 120, 100, 101, 102, 103, 121, 122, 123, 104, 105, 106, 124, 0, 1, 2, 3, 5, 6, 7, 8, 129, 130, 131, 132, 133, 134, 135, 136, 137, 138, 139, 140, 141, 142, 143, 144, 145, 146, 147, 148, 149, 150, 151, 152, 153, 154, 155, 156, 157, 158, 159, 160, 161, 162, 163, 164, 165] rfl (by decide +kernel)
set_option maxRecDepth 20000 in
theorem gX6_readChoice_X6_readEither : GoodIn wsX6_readChoice (wsV RX6 150 RX6 yX6_readEither wsX6_readEither) := goodIn_app (goodIn_of _ (by decide +kernel)) ggX6_readChoice_X6_readEither
set_option maxRecDepth 20000 in
theorem ggX6_readChoice_X6_expect : GoodIn wsX6_readChoice wsX6_expect := goodIn_r _ [8, 9, 10, 11, 12, 4, 13, 14, 15, 16, 17, 18, 19, 20, 21, 22, 23, 24, 25, 26, 27, 28, 29, 30, 31, 32, 33, 34, 35, 36, 37, 38, 39, 40, 41, 42, 43, 44, 45, 46, 47, 48, 49, 50, 51, 52, 53, 54, 55, 56, 57, 58, 59, 60, 61, 62, 63, 64, 65, 66, 67, 68, 69, 70, 71, 72, 73, 74, 75, 76, 77, 78, 79, 80, 81, 82, 83, 84, 85, 86, 87, 88, 89, 90, 91, 92, 93, 94, 95, 96, 97, 98, 99, 100, 101, 102, 103, 150, 151, 152, 153, 154, 155, 156, 157, 158, 159, 160, 161, 162, 163, 164, 165] rfl (by decide +kernel)
set_option maxRecDepth 20000 in
theorem gX6_readChoice_X6_expect : GoodIn wsX6_readChoice (wsV RX6 113 RX6 yX6_expect wsX6_expect) := goodIn_app (goodIn_of _ (by decide +kernel)) ggX6_readChoice_X6_expect
set_option maxRecDepth 20000 in
theorem ggX6_readChoice_X6_readSum : GoodIn wsX6_readChoice wsX6_readSum := goodIn_r _ [146, 9, 147, 148, 149, 4, 10, 11, 12, 13, 14, 15, 16, 17, 18, 19, 20, 21, 22, 23, 24, 25, 26, 27, 28, 29, 30, 31, 32, 33, 34, 35, 36, 37, 38, 39, 40, 41, 42, 43, 44, 45, 46, 47, 48, 49, 50, 51, 52, 53, 54, 55, 56, 57, 58, 59, 60, 61, 62, 63, 64, 65, 66, 67, 68, 69, 70, 71, 72, 73, 74, 75, 76, 77, 78, 79, 80, 81, 82, 83, 84, 85, 86, 87, 88, 89, 90, 91, 92, 93, 94, 95, 96, 97, 98, 99, 107, 108, 109, 110, 111, 112, 113, 114, 115, 116, 117, 118, 119, 120, 100, 101, 102, 103, 121, 122, 123, 104, 105, 106, 124, 0, 1, 2, 3, 5, 6, 7, 8, 125, 126, 127, 128, 129, 130, 131, 132, 133, 134, 135, 136, 137, 138, 139, 140, 141, 142, 143, 144, 145, 150, 151, 152, 153, 154, 155, 156, 157, 158, 159, 160, 161, 162, 163, 164, 165] rfl (by decide +kernel)
set_option maxRecDepth 20000 in
theorem gX6_readChoice_X6_readSum : GoodIn wsX6_readChoice (wsV RX6 107 RX6 yX6_readSum wsX6_readSum) := goodIn_app (goodIn_of _ (by decide +kernel)) ggX6_readChoice_X6_readSum
set_option maxRecDepth 20000 in
theorem ggX6_readChoice_X6_emit : GoodIn wsX6_readChoice wsX6_emit := goodIn_r _ [110, 111, 112, 113, 20, 114, 150, 151, 152, 153, 154, 155, 156, 157, 158, 159, 160, 161, 162, 163, 164, 165] rfl (by decide +kernel)
set_option maxRecDepth 20000 in
theorem gX6_readChoice_X6_emit : GoodIn wsX6_readChoice (wsV RX6 130 RX6 yX6_emit wsX6_emit) := goodIn_app (goodIn_of _ (by decide +kernel)) ggX6_readChoice_X6_emit
theorem dX6_readChoice_0 : decode cX6_readChoice 0 = .ok (.aload_n 0, 1) := by decide +kernel
theorem dX6_readChoice_1 : decode cX6_readChoice 1 = .ok (.invokevirtual 150, 3) := by decide +kernel
theorem dX6_readChoice_4 : decode cX6_readChoice 4 = .ok (.aload_n 0, 1) := by decide +kernel
theorem dX6_readChoice_5 : decode cX6_readChoice 5 = .ok (.bipush 24, 2) := by decide +kernel
theorem dX6_readChoice_7 : decode cX6_readChoice 7 = .ok (.invokevirtual 113, 3) := by decide +kernel
theorem dX6_readChoice_10 : decode cX6_readChoice 10 = .ok (.aload_n 0, 1) := by decide +kernel
theorem dX6_readChoice_11 : decode cX6_readChoice 11 = .ok (.invokevirtual 107, 3) := by decide +kernel
theorem dX6_readChoice_14 : decode cX6_readChoice 14 = .ok (.aload_n 0, 1) := by decide +kernel
theorem dX6_readChoice_15 : decode cX6_readChoice 15 = .ok (.bipush 25, 2) := by decide +kernel
theorem dX6_readChoice_17 : decode cX6_readChoice 17 = .ok (.invokevirtual 113, 3) := by decide +kernel
theorem dX6_readChoice_20 : decode cX6_readChoice 20 = .ok (.aload_n 0, 1) := by decide +kernel
theorem dX6_readChoice_21 : decode cX6_readChoice 21 = .ok (.invokevirtual 107, 3) := by decide +kernel
theorem dX6_readChoice_24 : decode cX6_readChoice 24 = .ok (.aload_n 0, 1) := by decide +kernel
theorem dX6_readChoice_25 : decode cX6_readChoice 25 = .ok (.bipush 26, 2) := by decide +kernel
theorem dX6_readChoice_27 : decode cX6_readChoice 27 = .ok (.invokevirtual 113, 3) := by decide +kernel
theorem dX6_readChoice_30 : decode cX6_readChoice 30 = .ok (.aload_n 0, 1) := by decide +kernel
theorem dX6_readChoice_31 : decode cX6_readChoice 31 = .ok (.bipush 23, 2) := by decide +kernel
theorem dX6_readChoice_33 : decode cX6_readChoice 33 = .ok (.iconst 0, 1) := by decide +kernel
theorem dX6_readChoice_34 : decode cX6_readChoice 34 = .ok (.invokevirtual 130, 3) := by decide +kernel
theorem dX6_readChoice_37 : decode cX6_readChoice 37 = .ok (.return_, 1) := by decide +kernel
set_option maxRecDepth 20000 in
theorem ggX6_readEither_X6_readBoth : GoodIn wsX6_readEither wsX6_readBoth := goodIn_r _ [120, 1, 114, 115, 116, 5, 6, 7, 8, 9, 10, 11, 12, 13, 14, 15, 16, 17, 18, 19, 20, 21, 22, 23, 24, 25, 26, 27, 28, 29, 30, 31, 32, 33, 34, 35, 36, 37, 38, 39, 40, 41, 42, 43, 44, 45, 46, 47, 48, 49, 50, 51, 52, 53, 54, 55, 56, 57, 58, 59, 60, 61, 62, 63, 64, 65, 66, 67, 68, 69, 70, 71, 72, 73, 74, 75, 76, 77, 78, 79, 80, 81, 82, 83, 84, 85, 86, 87, 88, 89, 90, 91, 92, 93, 94, 95, 96, 97, 98, 99, 100, 101, 102, 103, 104, 105, 106, 107, 108, 109, 110, 111, 112, 113, 117, 118, 119, 121, 122, 123, 124, 125, 126, 127, 128, 0, 2, 3, 4, 129, 130, 131, 132, 133, 134, 135, 136, 137, 138, 139, 140, 141, 142, 143, 144, 145, 146, 147, 148, 149, 150, 151, 152, 153, 154, 155, 156, 157, 158, 159, 160, 161, 162, 163, 164, 165] rfl (by decide +kernel)
set_option maxRecDepth 20000 in
theorem gX6_readEither_X6_readBoth : GoodIn wsX6_readEither (wsV RX6 153 RX6 yX6_readBoth wsX6_readBoth) := goodIn_app (goodIn_of _ (by decide +kernel)) ggX6_readEither_X6_readBoth
set_option maxRecDepth 20000 in
theorem ggX6_readEither_X6_advance : GoodIn wsX6_readEither wsX6_advance := goodIn_r _ [9, 10, 11, 12, 13, 14, 1, 15, 16, 17, 18, 19, 5, 20, 21, 22, 23, 24, 25, 26, 27, 28, 29, 30, 31, 32, 33, 34, 35, 36, 37, 38, 39, 40, 41, 42, 43, 44, 45, 46, 47, 48, 49, 50, 51, 52, 53, 54, 55, 56, 57, 58, 59, 60, 61, 62, 63, 64, 65, 66, 67, 68, 69, 70, 71, 72, 73, 74, 75, 76, 77, 78, 79, 80, 81, 82, 83, 84, 85, 86, 87, 88, 89, 90, 91, 92, 93, 94, 95, 150, 151, 152, 153, 154, 155, 156, 157, 158, 159, 160, 161, 162, 163, 164, 165] rfl (by decide +kernel)
set_option maxRecDepth 20000 in
theorem gX6_readEither_X6_advance : GoodIn wsX6_readEither (wsV RX6 59 RX6 yX6_advance wsX6_advance) := goodIn_app (goodIn_of _ (by decide +kernel)) ggX6_readEither_X6_advance
set_option maxRecDepth 20000 in
theorem ggX6_readEither_X6_emit : GoodIn wsX6_readEither wsX6_emit := goodIn_r _ [99, 100, 101, 102, 16, 103, 150, 151, 152, 153, 154, 155, 156, 157, 158, 159, 160, 161, 162, 163, 164, 165] rfl (by decide +kernel)
set_option maxRecDepth 20000 in
theorem gX6_readEither_X6_emit : GoodIn wsX6_readEither (wsV RX6 130 RX6 yX6_emit wsX6_emit) := goodIn_app (goodIn_of _ (by decide +kernel)) ggX6_readEither_X6_emit
theorem dX6_readEither_0 : decode cX6_readEither 0 = .ok (.aload_n 0, 1) := by decide +kernel
theorem dX6_readEither_1 : decode cX6_readEither 1 = .ok (.invokevirtual 153, 3) := by decide +kernel
theorem dX6_readEither_4 : decode cX6_readEither 4 = .ok (.iconst 0, 1) := by decide +kernel
theorem dX6_readEither_5 : decode cX6_readEither 5 = .ok (.istore_n 1, 1) := by decide +kernel
theorem dX6_readEither_6 : decode cX6_readEither 6 = .ok (.iload_n 1, 1) := by decide +kernel
theorem dX6_readEither_7 : decode cX6_readEither 7 = .ok (.sipush 300, 3) := by decide +kernel
theorem dX6_readEither_10 : decode cX6_readEither 10 = .ok (.if_icmp .ge 33, 3) := by decide +kernel
theorem dX6_readEither_13 : decode cX6_readEither 13 = .ok (.aload_n 0, 1) := by decide +kernel
theorem dX6_readEither_14 : decode cX6_readEither 14 = .ok (.getfield 62, 3) := by decide +kernel
theorem dX6_readEither_17 : decode cX6_readEither 17 = .ok (.bipush 27, 2) := by decide +kernel
theorem dX6_readEither_19 : decode cX6_readEither 19 = .ok (.if_icmp .ne 24, 3) := by decide +kernel
theorem dX6_readEither_22 : decode cX6_readEither 22 = .ok (.aload_n 0, 1) := by decide +kernel
theorem dX6_readEither_23 : decode cX6_readEither 23 = .ok (.invokevirtual 59, 3) := by decide +kernel
theorem dX6_readEither_26 : decode cX6_readEither 26 = .ok (.aload_n 0, 1) := by decide +kernel
theorem dX6_readEither_27 : decode cX6_readEither 27 = .ok (.invokevirtual 153, 3) := by decide +kernel
theorem dX6_readEither_30 : decode cX6_readEither 30 = .ok (.aload_n 0, 1) := by decide +kernel
theorem dX6_readEither_31 : decode cX6_readEither 31 = .ok (.bipush 27, 2) := by decide +kernel
theorem dX6_readEither_33 : decode cX6_readEither 33 = .ok (.iconst 0, 1) := by decide +kernel
theorem dX6_readEither_34 : decode cX6_readEither 34 = .ok (.invokevirtual 130, 3) := by decide +kernel
theorem dX6_readEither_37 : decode cX6_readEither 37 = .ok (.iinc 1 1, 3) := by decide +kernel
theorem dX6_readEither_40 : decode cX6_readEither 40 = .ok (.goto (-34), 3) := by decide +kernel
theorem dX6_readEither_43 : decode cX6_readEither 43 = .ok (.return_, 1) := by decide +kernel
set_option maxRecDepth 20000 in
theorem ggX6_readBoth_X6_readAsk : GoodIn wsX6_readBoth wsX6_readAsk := goodIn_r _ [104, 1, 105, 106, 107, 108, 5, 109, 110, 111, 112, 113, 10, 6, 7, 8, 9, 11, 12, 13, 14, 15, 16, 17, 18, 19, 20, 21, 22, 23, 24, 25, 26, 27, 28, 29, 30, 31, 32, 33, 34, 35, 36, 37, 38, 39, 40, 41, 42, 43, 44, 45, 46, 47, 48, 49, 50, 51, 52, 53, 54, 55, 56, 57, 58, 59, 60, 61, 62, 63, 64, 65, 66, 67, 68, 69, 70, 71, 72, 73, 74, 75, 76, 77, 78, 79, 80, 81, 82, 83, 84, 85, 86, 87, 88, 89, 90, 91, 92, 93, 94, 95, 2, 3, 4, 96, 97, 98, 99, 100, 101, 102, 103, 114, 115, 116, 0, 117, 118, 119, 120, 121, 122, 123, 124, 125, 126, 127, 128, 129, 130, 131, 132, 133, 134, 135, 136, 137, 138, 139, 140, 141, 142, 143, 144, 145, 146, 147, 148, 149, 150, 151, 152, 153, 154, 155, 156, 157, 158, 159, 160, 161, 162, 163, 164, 165] rfl (by decide +kernel)
set_option maxRecDepth 20000 in
theorem gX6_readBoth_X6_readAsk : GoodIn wsX6_readBoth (wsV RX6 156 RX6 yX6_readAsk wsX6_readAsk) := goodIn_app (goodIn_of _ (by decide +kernel)) ggX6_readBoth_X6_readAsk
set_option maxRecDepth 20000 in
theorem ggX6_readBoth_X6_advance : GoodIn wsX6_readBoth wsX6_advance := goodIn_r _ [9, 10, 11, 12, 13, 14, 1, 15, 16, 17, 18, 19, 5, 20, 21, 22, 23, 24, 25, 26, 27, 28, 29, 30, 31, 32, 33, 34, 35, 36, 37, 38, 39, 40, 41, 42, 43, 44, 45, 46, 47, 48, 49, 50, 51, 52, 53, 54, 55, 56, 57, 58, 59, 60, 61, 62, 63, 64, 65, 66, 67, 68, 69, 70, 71, 72, 73, 74, 75, 76, 77, 78, 79, 80, 81, 82, 83, 84, 85, 86, 87, 88, 89, 90, 91, 92, 93, 94, 95, 150, 151, 152, 153, 154, 155, 156, 157, 158, 159, 160, 161, 162, 163, 164, 165] rfl (by decide +kernel)
set_option maxRecDepth 20000 in
theorem gX6_readBoth_X6_advance : GoodIn wsX6_readBoth (wsV RX6 59 RX6 yX6_advance wsX6_advance) := goodIn_app (goodIn_of _ (by decide +kernel)) ggX6_readBoth_X6_advance
set_option maxRecDepth 20000 in
theorem ggX6_readBoth_X6_emit : GoodIn wsX6_readBoth wsX6_emit := goodIn_r _ [99, 100, 101, 102, 16, 103, 150, 151, 152, 153, 154, 155, 156, 157, 158, 159, 160, 161, 162, 163, 164, 165] rfl (by decide +kernel)
set_option maxRecDepth 20000 in
theorem gX6_readBoth_X6_emit : GoodIn wsX6_readBoth (wsV RX6 130 RX6 yX6_emit wsX6_emit) := goodIn_app (goodIn_of _ (by decide +kernel)) ggX6_readBoth_X6_emit
theorem dX6_readBoth_0 : decode cX6_readBoth 0 = .ok (.aload_n 0, 1) := by decide +kernel
theorem dX6_readBoth_1 : decode cX6_readBoth 1 = .ok (.invokevirtual 156, 3) := by decide +kernel
theorem dX6_readBoth_4 : decode cX6_readBoth 4 = .ok (.iconst 0, 1) := by decide +kernel
theorem dX6_readBoth_5 : decode cX6_readBoth 5 = .ok (.istore_n 1, 1) := by decide +kernel
theorem dX6_readBoth_6 : decode cX6_readBoth 6 = .ok (.iload_n 1, 1) := by decide +kernel
theorem dX6_readBoth_7 : decode cX6_readBoth 7 = .ok (.sipush 300, 3) := by decide +kernel
theorem dX6_readBoth_10 : decode cX6_readBoth 10 = .ok (.if_icmp .ge 33, 3) := by decide +kernel
theorem dX6_readBoth_13 : decode cX6_readBoth 13 = .ok (.aload_n 0, 1) := by decide +kernel
theorem dX6_readBoth_14 : decode cX6_readBoth 14 = .ok (.getfield 62, 3) := by decide +kernel
theorem dX6_readBoth_17 : decode cX6_readBoth 17 = .ok (.bipush 28, 2) := by decide +kernel
theorem dX6_readBoth_19 : decode cX6_readBoth 19 = .ok (.if_icmp .ne 24, 3) := by decide +kernel
theorem dX6_readBoth_22 : decode cX6_readBoth 22 = .ok (.aload_n 0, 1) := by decide +kernel
theorem dX6_readBoth_23 : decode cX6_readBoth 23 = .ok (.invokevirtual 59, 3) := by decide +kernel
theorem dX6_readBoth_26 : decode cX6_readBoth 26 = .ok (.aload_n 0, 1) := by decide +kernel
theorem dX6_readBoth_27 : decode cX6_readBoth 27 = .ok (.invokevirtual 156, 3) := by decide +kernel
theorem dX6_readBoth_30 : decode cX6_readBoth 30 = .ok (.aload_n 0, 1) := by decide +kernel
theorem dX6_readBoth_31 : decode cX6_readBoth 31 = .ok (.bipush 28, 2) := by decide +kernel
theorem dX6_readBoth_33 : decode cX6_readBoth 33 = .ok (.iconst 0, 1) := by decide +kernel
theorem dX6_readBoth_34 : decode cX6_readBoth 34 = .ok (.invokevirtual 130, 3) := by decide +kernel
theorem dX6_readBoth_37 : decode cX6_readBoth 37 = .ok (.iinc 1 1, 3) := by decide +kernel
theorem dX6_readBoth_40 : decode cX6_readBoth 40 = .ok (.goto (-34), 3) := by decide +kernel
theorem dX6_readBoth_43 : decode cX6_readBoth 43 = .ok (.return_, 1) := by decide +kernel
set_option maxRecDepth 20000 in
theorem ggX6_readAsk_X6_opens : GoodIn wsX6_readAsk wsX6_opens := goodIn_r _ [7, 2, 8, 9, 10, 6, 11, 12, 1, 13, 14, 15, 16, 17, 18, 19, 20, 21, 22, 23, 24, 25, 26, 27, 28, 29, 30, 31, 32, 33, 34, 35, 36, 37, 38, 39, 40, 41, 42, 43, 44, 45, 46, 47, 48, 49, 50, 51, 52, 53, 54, 55, 56, 57, 58, 59, 60, 61, 62, 63, 64, 65, 66, 67, 68, 69, 70, 71, 72, 73, 74, 75, 76, 77, 78, 79, 80, 81, 82, 83, 84, 85, 86, 87, 88, 89, 90, 91, 92, 93, 94, 95, 96, 97, 98, 99, 100, 101, 150, 151, 152, 153, 154, 155, 156, 157, 158, 159, 160, 161, 162, 163, 164, 165] rfl (by decide +kernel)
set_option maxRecDepth 20000 in
theorem gX6_readAsk_X6_opens : GoodIn wsX6_readAsk (wsV RX6 140 RX6 yX6_opens wsX6_opens) := goodIn_app (goodIn_of _ (by decide +kernel)) ggX6_readAsk_X6_opens
set_option maxRecDepth 20000 in
theorem ggX6_readAsk_X6_readAsk : GoodIn wsX6_readAsk wsX6_readAsk := goodIn_r _ [0, 1, 2, 3, 4, 5, 6, 7, 8, 9, 10, 11, 12, 13, 14, 15, 16, 17, 18, 19, 20, 21, 22, 23, 24, 25, 26, 27, 28, 29, 30, 31, 32, 33, 34, 35, 36, 37, 38, 39, 40, 41, 42, 43, 44, 45, 46, 47, 48, 49, 50, 51, 52, 53, 54, 55, 56, 57, 58, 59, 60, 61, 62, 63, 64, 65, 66, 67, 68, 69, 70, 71, 72, 73, 74, 75, 76, 77, 78, 79, 80, 81, 82, 83, 84, 85, 86, 87, 88, 89, 90, 91, 92, 93, 94, 95, 96, 97, 98, 99, 100, 101, 102, 103, 104, 105, 106, 107, 108, 109, 110, 111, 112, 113, 114, 115, 116, 117, 118, 119, 120, 121, 122, 123, 124, 125, 126, 127, 128, 129, 130, 131, 132, 133, 134, 135, 136, 137, 138, 139, 140, 141, 142, 143, 144, 145, 146, 147, 148, 149, 150, 151, 152, 153, 154, 155, 156, 157, 158, 159, 160, 161, 162, 163, 164, 165] rfl (by decide +kernel)
set_option maxRecDepth 20000 in
theorem gX6_readAsk_X6_readAsk : GoodIn wsX6_readAsk (wsV RX6 156 RX6 yX6_readAsk wsX6_readAsk) := goodIn_app (goodIn_of _ (by decide +kernel)) ggX6_readAsk_X6_readAsk
set_option maxRecDepth 20000 in
theorem ggX6_readAsk_X6_emit : GoodIn wsX6_readAsk wsX6_emit := goodIn_r _ [108, 109, 110, 111, 22, 112, 150, 151, 152, 153, 154, 155, 156, 157, 158, 159, 160, 161, 162, 163, 164, 165] rfl (by decide +kernel)
set_option maxRecDepth 20000 in
theorem gX6_readAsk_X6_emit : GoodIn wsX6_readAsk (wsV RX6 130 RX6 yX6_emit wsX6_emit) := goodIn_app (goodIn_of _ (by decide +kernel)) ggX6_readAsk_X6_emit
set_option maxRecDepth 20000 in
theorem ggX6_readAsk_X6_readSum : GoodIn wsX6_readAsk wsX6_readSum := goodIn_r _ [146, 1, 147, 148, 149, 6, 13, 14, 15, 16, 12, 17, 18, 19, 20, 21, 22, 23, 24, 25, 26, 27, 28, 29, 30, 31, 32, 33, 34, 35, 36, 37, 38, 39, 40, 41, 42, 43, 44, 45, 46, 47, 48, 49, 50, 51, 52, 53, 54, 55, 56, 57, 58, 59, 60, 61, 62, 63, 64, 65, 66, 67, 68, 69, 70, 71, 72, 73, 74, 75, 76, 77, 78, 79, 80, 81, 82, 83, 84, 85, 86, 87, 88, 89, 90, 91, 92, 93, 94, 95, 96, 97, 98, 99, 100, 101, 105, 106, 107, 108, 109, 110, 111, 112, 0, 2, 3, 4, 5, 7, 8, 9, 10, 11, 102, 103, 104, 113, 114, 115, 116, 117, 118, 119, 120, 121, 122, 123, 124, 125, 126, 127, 128, 129, 130, 131, 132, 133, 134, 135, 136, 137, 138, 139, 140, 141, 142, 143, 144, 145, 150, 151, 152, 153, 154, 155, 156, 157, 158, 159, 160, 161, 162, 163, 164, 165] rfl (by decide +kernel)
set_option maxRecDepth 20000 in
theorem gX6_readAsk_X6_readSum : GoodIn wsX6_readAsk (wsV RX6 107 RX6 yX6_readSum wsX6_readSum) := goodIn_app (goodIn_of _ (by decide +kernel)) ggX6_readAsk_X6_readSum
set_option maxRecDepth 20000 in
theorem ggX6_readAsk_X6_fail : GoodIn wsX6_readAsk wsX6_fail := goodIn_r _ [11, 12, 1, 150, 151, 152, 153, 154, 155, 156, 157, 158, 159, 160, 161, 162, 163, 164, 165] rfl (by decide +kernel)
set_option maxRecDepth 20000 in
theorem gX6_readAsk_X6_fail : GoodIn wsX6_readAsk (wsV RX6 93 RX6 yX6_fail wsX6_fail) := goodIn_app (goodIn_of _ (by decide +kernel)) ggX6_readAsk_X6_fail
set_option maxRecDepth 20000 in
theorem ggX6_readAsk_X6_advance : GoodIn wsX6_readAsk wsX6_advance := goodIn_r _ [16, 12, 17, 18, 19, 20, 1, 21, 22, 23, 24, 25, 6, 26, 27, 28, 29, 30, 31, 32, 33, 34, 35, 36, 37, 38, 39, 40, 41, 42, 43, 44, 45, 46, 47, 48, 49, 50, 51, 52, 53, 54, 55, 56, 57, 58, 59, 60, 61, 62, 63, 64, 65, 66, 67, 68, 69, 70, 71, 72, 73, 74, 75, 76, 77, 78, 79, 80, 81, 82, 83, 84, 85, 86, 87, 88, 89, 90, 91, 92, 93, 94, 95, 96, 97, 98, 99, 100, 101, 150, 151, 152, 153, 154, 155, 156, 157, 158, 159, 160, 161, 162, 163, 164, 165] rfl (by decide +kernel)
set_option maxRecDepth 20000 in
theorem gX6_readAsk_X6_advance : GoodIn wsX6_readAsk (wsV RX6 59 RX6 yX6_advance wsX6_advance) := goodIn_app (goodIn_of _ (by decide +kernel)) ggX6_readAsk_X6_advance
theorem dX6_readAsk_0 : decode cX6_readAsk 0 = .ok (.aload_n 0, 1) := by decide +kernel
theorem dX6_readAsk_1 : decode cX6_readAsk 1 = .ok (.getfield 62, 3) := by decide +kernel
theorem dX6_readAsk_4 : decode cX6_readAsk 4 = .ok (.bipush 29, 2) := by decide +kernel
theorem dX6_readAsk_6 : decode cX6_readAsk 6 = .ok (.if_icmp .ne 32, 3) := by decide +kernel
theorem dX6_readAsk_9 : decode cX6_readAsk 9 = .ok (.aload_n 0, 1) := by decide +kernel
theorem dX6_readAsk_10 : decode cX6_readAsk 10 = .ok (.invokevirtual 140, 3) := by decide +kernel
theorem dX6_readAsk_13 : decode cX6_readAsk 13 = .ok (.ifCond .eq 24, 3) := by decide +kernel
theorem dX6_readAsk_16 : decode cX6_readAsk 16 = .ok (.aload_n 0, 1) := by decide +kernel
theorem dX6_readAsk_17 : decode cX6_readAsk 17 = .ok (.invokevirtual 156, 3) := by decide +kernel
theorem dX6_readAsk_20 : decode cX6_readAsk 20 = .ok (.aload_n 0, 1) := by decide +kernel
theorem dX6_readAsk_21 : decode cX6_readAsk 21 = .ok (.bipush 29, 2) := by decide +kernel
theorem dX6_readAsk_23 : decode cX6_readAsk 23 = .ok (.iconst 0, 1) := by decide +kernel
theorem dX6_readAsk_24 : decode cX6_readAsk 24 = .ok (.invokevirtual 130, 3) := by decide +kernel
theorem dX6_readAsk_27 : decode cX6_readAsk 27 = .ok (.aload_n 0, 1) := by decide +kernel
theorem dX6_readAsk_28 : decode cX6_readAsk 28 = .ok (.dup, 1) := by decide +kernel
theorem dX6_readAsk_29 : decode cX6_readAsk 29 = .ok (.getfield 50, 3) := by decide +kernel
theorem dX6_readAsk_32 : decode cX6_readAsk 32 = .ok (.iconst 1, 1) := by decide +kernel
theorem dX6_readAsk_33 : decode cX6_readAsk 33 = .ok (.isub, 1) := by decide +kernel
theorem dX6_readAsk_34 : decode cX6_readAsk 34 = .ok (.putfield 50, 3) := by decide +kernel
theorem dX6_readAsk_37 : decode cX6_readAsk 37 = .ok (.return_, 1) := by decide +kernel
theorem dX6_readAsk_38 : decode cX6_readAsk 38 = .ok (.aload_n 0, 1) := by decide +kernel
theorem dX6_readAsk_39 : decode cX6_readAsk 39 = .ok (.invokevirtual 107, 3) := by decide +kernel
theorem dX6_readAsk_42 : decode cX6_readAsk 42 = .ok (.aload_n 0, 1) := by decide +kernel
theorem dX6_readAsk_43 : decode cX6_readAsk 43 = .ok (.getfield 62, 3) := by decide +kernel
theorem dX6_readAsk_46 : decode cX6_readAsk 46 = .ok (.istore_n 1, 1) := by decide +kernel
theorem dX6_readAsk_47 : decode cX6_readAsk 47 = .ok (.iload_n 1, 1) := by decide +kernel
theorem dX6_readAsk_48 : decode cX6_readAsk 48 = .ok (.bipush 33, 2) := by decide +kernel
theorem dX6_readAsk_50 : decode cX6_readAsk 50 = .ok (.if_icmp .lt 9, 3) := by decide +kernel
theorem dX6_readAsk_53 : decode cX6_readAsk 53 = .ok (.iload_n 1, 1) := by decide +kernel
theorem dX6_readAsk_54 : decode cX6_readAsk 54 = .ok (.bipush 38, 2) := by decide +kernel
theorem dX6_readAsk_56 : decode cX6_readAsk 56 = .ok (.if_icmp .le 9, 3) := by decide +kernel
theorem dX6_readAsk_59 : decode cX6_readAsk 59 = .ok (.aload_n 0, 1) := by decide +kernel
theorem dX6_readAsk_60 : decode cX6_readAsk 60 = .ok (.iconst 1, 1) := by decide +kernel
theorem dX6_readAsk_61 : decode cX6_readAsk 61 = .ok (.invokevirtual 93, 3) := by decide +kernel
theorem dX6_readAsk_64 : decode cX6_readAsk 64 = .ok (.return_, 1) := by decide +kernel
theorem dX6_readAsk_65 : decode cX6_readAsk 65 = .ok (.aload_n 0, 1) := by decide +kernel
theorem dX6_readAsk_66 : decode cX6_readAsk 66 = .ok (.invokevirtual 59, 3) := by decide +kernel
theorem dX6_readAsk_69 : decode cX6_readAsk 69 = .ok (.aload_n 0, 1) := by decide +kernel
theorem dX6_readAsk_70 : decode cX6_readAsk 70 = .ok (.invokevirtual 107, 3) := by decide +kernel
theorem dX6_readAsk_73 : decode cX6_readAsk 73 = .ok (.aload_n 0, 1) := by decide +kernel
theorem dX6_readAsk_74 : decode cX6_readAsk 74 = .ok (.iload_n 1, 1) := by decide +kernel
theorem dX6_readAsk_75 : decode cX6_readAsk 75 = .ok (.iconst 0, 1) := by decide +kernel
theorem dX6_readAsk_76 : decode cX6_readAsk 76 = .ok (.invokevirtual 130, 3) := by decide +kernel
theorem dX6_readAsk_79 : decode cX6_readAsk 79 = .ok (.return_, 1) := by decide +kernel
set_option maxRecDepth 20000 in
theorem ggX6_readPlainNumber_X6_fail : GoodIn wsX6_readPlainNumber wsX6_fail := goodIn_r _ [6, 7, 8, 105, 106, 107, 108, 109, 110, 111, 112, 113, 114, 115, 116, 117, 118, 119, 120] rfl (by decide +kernel)
set_option maxRecDepth 20000 in
theorem gX6_readPlainNumber_X6_fail : GoodIn wsX6_readPlainNumber (wsV RX6 93 RX6 yX6_fail wsX6_fail) := goodIn_app (goodIn_of _ (by decide +kernel)) ggX6_readPlainNumber_X6_fail
set_option maxRecDepth 20000 in
theorem ggX6_readPlainNumber_X6_emit : GoodIn wsX6_readPlainNumber wsX6_emit := goodIn_r _ [12, 13, 14, 15, 16, 17, 105, 106, 107, 108, 109, 110, 111, 112, 113, 114, 115, 116, 117, 118, 119, 120] rfl (by decide +kernel)
set_option maxRecDepth 20000 in
theorem gX6_readPlainNumber_X6_emit : GoodIn wsX6_readPlainNumber (wsV RX6 130 RX6 yX6_emit wsX6_emit) := goodIn_app (goodIn_of _ (by decide +kernel)) ggX6_readPlainNumber_X6_emit
set_option maxRecDepth 20000 in
theorem ggX6_readPlainNumber_X6_advance : GoodIn wsX6_readPlainNumber wsX6_advance := goodIn_r _ [21, 7, 22, 23, 24, 25, 8, 26, 16, 27, 28, 29, 5, 30, 31, 32, 33, 34, 35, 36, 37, 38, 39, 40, 41, 42, 43, 44, 45, 46, 47, 48, 49, 50, 51, 52, 53, 54, 55, 56, 57, 58, 59, 60, 61, 62, 63, 64, 65, 66, 67, 68, 69, 70, 71, 72, 73, 74, 75, 76, 77, 78, 79, 80, 81, 82, 83, 84, 85, 86, 87, 88, 89, 90, 91, 92, 93, 1, 94, 95, 96, 97, 98, 99, 100, 101, 102, 103, 104, 105, 106, 107, 108, 109, 110, 111, 112, 113, 114, 115, 116, 117, 118, 119, 120] rfl (by decide +kernel)
set_option maxRecDepth 20000 in
theorem gX6_readPlainNumber_X6_advance : GoodIn wsX6_readPlainNumber (wsV RX6 59 RX6 yX6_advance wsX6_advance) := goodIn_app (goodIn_of _ (by decide +kernel)) ggX6_readPlainNumber_X6_advance
theorem dX6_readPlainNumber_0 : decode cX6_readPlainNumber 0 = .ok (.aload_n 0, 1) := by decide +kernel
theorem dX6_readPlainNumber_1 : decode cX6_readPlainNumber 1 = .ok (.getfield 120, 3) := by decide +kernel
theorem dX6_readPlainNumber_4 : decode cX6_readPlainNumber 4 = .ok (.sipush 9999, 3) := by decide +kernel
theorem dX6_readPlainNumber_7 : decode cX6_readPlainNumber 7 = .ok (.if_icmp .le 11, 3) := by decide +kernel
theorem dX6_readPlainNumber_10 : decode cX6_readPlainNumber 10 = .ok (.aload_n 0, 1) := by decide +kernel
theorem dX6_readPlainNumber_11 : decode cX6_readPlainNumber 11 = .ok (.iconst 2, 1) := by decide +kernel
theorem dX6_readPlainNumber_12 : decode cX6_readPlainNumber 12 = .ok (.invokevirtual 93, 3) := by decide +kernel
theorem dX6_readPlainNumber_15 : decode cX6_readPlainNumber 15 = .ok (.goto 17, 3) := by decide +kernel
theorem dX6_readPlainNumber_18 : decode cX6_readPlainNumber 18 = .ok (.aload_n 0, 1) := by decide +kernel
theorem dX6_readPlainNumber_19 : decode cX6_readPlainNumber 19 = .ok (.bipush 32, 2) := by decide +kernel
theorem dX6_readPlainNumber_21 : decode cX6_readPlainNumber 21 = .ok (.aload_n 0, 1) := by decide +kernel
theorem dX6_readPlainNumber_22 : decode cX6_readPlainNumber 22 = .ok (.getfield 120, 3) := by decide +kernel
theorem dX6_readPlainNumber_25 : decode cX6_readPlainNumber 25 = .ok (.invokevirtual 130, 3) := by decide +kernel
theorem dX6_readPlainNumber_28 : decode cX6_readPlainNumber 28 = .ok (.aload_n 0, 1) := by decide +kernel
theorem dX6_readPlainNumber_29 : decode cX6_readPlainNumber 29 = .ok (.invokevirtual 59, 3) := by decide +kernel
theorem dX6_readPlainNumber_32 : decode cX6_readPlainNumber 32 = .ok (.return_, 1) := by decide +kernel
set_option maxRecDepth 20000 in
theorem ggX6_readName_X6_fail : GoodIn wsX6_readName wsX6_fail := goodIn_r _ [7, 8, 1, 106, 107, 108, 109, 110, 111, 112, 113, 114, 115, 116, 117, 118, 119, 120, 121] rfl (by decide +kernel)
set_option maxRecDepth 20000 in
theorem gX6_readName_X6_fail : GoodIn wsX6_readName (wsV RX6 93 RX6 yX6_fail wsX6_fail) := goodIn_app (goodIn_of _ (by decide +kernel)) ggX6_readName_X6_fail
set_option maxRecDepth 20000 in
theorem ggX6_readName_X6_emit : GoodIn wsX6_readName wsX6_emit := goodIn_r _ [12, 13, 14, 15, 16, 17, 106, 107, 108, 109, 110, 111, 112, 113, 114, 115, 116, 117, 118, 119, 120, 121] rfl (by decide +kernel)
set_option maxRecDepth 20000 in
theorem gX6_readName_X6_emit : GoodIn wsX6_readName (wsV RX6 130 RX6 yX6_emit wsX6_emit) := goodIn_app (goodIn_of _ (by decide +kernel)) ggX6_readName_X6_emit
set_option maxRecDepth 20000 in
theorem ggX6_readName_X6_advance : GoodIn wsX6_readName wsX6_advance := goodIn_r _ [21, 8, 22, 23, 24, 25, 1, 26, 16, 27, 28, 29, 6, 30, 31, 32, 33, 34, 35, 36, 37, 38, 39, 40, 41, 42, 43, 44, 45, 46, 47, 48, 49, 50, 51, 52, 53, 54, 55, 56, 57, 58, 59, 60, 61, 62, 63, 64, 65, 66, 67, 68, 69, 70, 71, 72, 73, 74, 75, 76, 77, 78, 79, 80, 81, 82, 83, 84, 85, 86, 87, 88, 89, 90, 91, 92, 93, 94, 95, 96, 97, 98, 99, 100, 101, 102, 103, 104, 105, 106, 107, 108, 109, 110, 111, 112, 113, 114, 115, 116, 117, 118, 119, 120, 121] rfl (by decide +kernel)
set_option maxRecDepth 20000 in
theorem gX6_readName_X6_advance : GoodIn wsX6_readName (wsV RX6 59 RX6 yX6_advance wsX6_advance) := goodIn_app (goodIn_of _ (by decide +kernel)) ggX6_readName_X6_advance
theorem dX6_readName_0 : decode cX6_readName 0 = .ok (.aload_n 0, 1) := by decide +kernel
theorem dX6_readName_1 : decode cX6_readName 1 = .ok (.getfield 62, 3) := by decide +kernel
theorem dX6_readName_4 : decode cX6_readName 4 = .ok (.bipush 12, 2) := by decide +kernel
theorem dX6_readName_6 : decode cX6_readName 6 = .ok (.if_icmp .lt 11, 3) := by decide +kernel
theorem dX6_readName_9 : decode cX6_readName 9 = .ok (.aload_n 0, 1) := by decide +kernel
theorem dX6_readName_10 : decode cX6_readName 10 = .ok (.iconst 1, 1) := by decide +kernel
theorem dX6_readName_11 : decode cX6_readName 11 = .ok (.invokevirtual 93, 3) := by decide +kernel
theorem dX6_readName_14 : decode cX6_readName 14 = .ok (.goto 64, 3) := by decide +kernel
theorem dX6_readName_17 : decode cX6_readName 17 = .ok (.aload_n 0, 1) := by decide +kernel
theorem dX6_readName_18 : decode cX6_readName 18 = .ok (.getfield 62, 3) := by decide +kernel
theorem dX6_readName_21 : decode cX6_readName 21 = .ok (.iconst 5, 1) := by decide +kernel
theorem dX6_readName_22 : decode cX6_readName 22 = .ok (.if_icmp .le 42, 3) := by decide +kernel
theorem dX6_readName_25 : decode cX6_readName 25 = .ok (.aload_n 0, 1) := by decide +kernel
theorem dX6_readName_26 : decode cX6_readName 26 = .ok (.getfield 62, 3) := by decide +kernel
theorem dX6_readName_29 : decode cX6_readName 29 = .ok (.bipush 11, 2) := by decide +kernel
theorem dX6_readName_31 : decode cX6_readName 31 = .ok (.if_icmp .ne 7, 3) := by decide +kernel
theorem dX6_readName_34 : decode cX6_readName 34 = .ok (.iconst 1, 1) := by decide +kernel
theorem dX6_readName_35 : decode cX6_readName 35 = .ok (.goto 4, 3) := by decide +kernel
theorem dX6_readName_38 : decode cX6_readName 38 = .ok (.iconst 0, 1) := by decide +kernel
theorem dX6_readName_39 : decode cX6_readName 39 = .ok (.aload_n 0, 1) := by decide +kernel
theorem dX6_readName_40 : decode cX6_readName 40 = .ok (.getfield 104, 3) := by decide +kernel
theorem dX6_readName_43 : decode cX6_readName 43 = .ok (.bipush 14, 2) := by decide +kernel
theorem dX6_readName_45 : decode cX6_readName 45 = .ok (.if_icmp .ne 7, 3) := by decide +kernel
theorem dX6_readName_48 : decode cX6_readName 48 = .ok (.iconst 1, 1) := by decide +kernel
theorem dX6_readName_49 : decode cX6_readName 49 = .ok (.goto 4, 3) := by decide +kernel
theorem dX6_readName_52 : decode cX6_readName 52 = .ok (.iconst 0, 1) := by decide +kernel
theorem dX6_readName_53 : decode cX6_readName 53 = .ok (.if_icmp .eq 11, 3) := by decide +kernel
theorem dX6_readName_56 : decode cX6_readName 56 = .ok (.aload_n 0, 1) := by decide +kernel
theorem dX6_readName_57 : decode cX6_readName 57 = .ok (.iconst 5, 1) := by decide +kernel
theorem dX6_readName_58 : decode cX6_readName 58 = .ok (.invokevirtual 93, 3) := by decide +kernel
theorem dX6_readName_61 : decode cX6_readName 61 = .ok (.goto 17, 3) := by decide +kernel
theorem dX6_readName_64 : decode cX6_readName 64 = .ok (.aload_n 0, 1) := by decide +kernel
theorem dX6_readName_65 : decode cX6_readName 65 = .ok (.bipush 47, 2) := by decide +kernel
theorem dX6_readName_67 : decode cX6_readName 67 = .ok (.aload_n 0, 1) := by decide +kernel
theorem dX6_readName_68 : decode cX6_readName 68 = .ok (.getfield 62, 3) := by decide +kernel
theorem dX6_readName_71 : decode cX6_readName 71 = .ok (.invokevirtual 130, 3) := by decide +kernel
theorem dX6_readName_74 : decode cX6_readName 74 = .ok (.aload_n 0, 1) := by decide +kernel
theorem dX6_readName_75 : decode cX6_readName 75 = .ok (.invokevirtual 59, 3) := by decide +kernel
theorem dX6_readName_78 : decode cX6_readName 78 = .ok (.return_, 1) := by decide +kernel
set_option maxRecDepth 20000 in
theorem ggX6_opens_X6_fail : GoodIn wsX6_opens wsX6_fail := goodIn_r _ [6, 7, 8, 98, 99, 100, 101, 102, 103, 104, 105, 106, 107, 108, 109, 110, 111, 112, 113] rfl (by decide +kernel)
set_option maxRecDepth 20000 in
theorem gX6_opens_X6_fail : GoodIn wsX6_opens (wsV RX6 93 RX6 yX6_fail wsX6_fail) := goodIn_app (goodIn_of _ (by decide +kernel)) ggX6_opens_X6_fail
set_option maxRecDepth 20000 in
theorem ggX6_opens_X6_advance : GoodIn wsX6_opens wsX6_advance := goodIn_r _ [12, 7, 13, 14, 15, 16, 8, 17, 18, 19, 20, 21, 5, 22, 23, 24, 25, 26, 27, 28, 29, 30, 31, 32, 33, 34, 35, 36, 37, 38, 39, 40, 41, 42, 43, 44, 45, 46, 47, 48, 49, 50, 51, 52, 53, 54, 55, 56, 57, 58, 59, 60, 61, 62, 63, 64, 65, 66, 67, 68, 69, 70, 71, 72, 73, 74, 75, 76, 77, 78, 79, 80, 81, 82, 83, 84, 85, 86, 87, 88, 89, 90, 91, 92, 93, 94, 95, 96, 97, 98, 99, 100, 101, 102, 103, 104, 105, 106, 107, 108, 109, 110, 111, 112, 113] rfl (by decide +kernel)
set_option maxRecDepth 20000 in
theorem gX6_opens_X6_advance : GoodIn wsX6_opens (wsV RX6 59 RX6 yX6_advance wsX6_advance) := goodIn_app (goodIn_of _ (by decide +kernel)) ggX6_opens_X6_advance
theorem dX6_opens_0 : decode cX6_opens 0 = .ok (.aload_n 0, 1) := by decide +kernel
theorem dX6_opens_1 : decode cX6_opens 1 = .ok (.getfield 50, 3) := by decide +kernel
theorem dX6_opens_4 : decode cX6_opens 4 = .ok (.bipush 8, 2) := by decide +kernel
theorem dX6_opens_6 : decode cX6_opens 6 = .ok (.if_icmp .lt 10, 3) := by decide +kernel
theorem dX6_opens_9 : decode cX6_opens 9 = .ok (.aload_n 0, 1) := by decide +kernel
theorem dX6_opens_10 : decode cX6_opens 10 = .ok (.iconst 3, 1) := by decide +kernel
theorem dX6_opens_11 : decode cX6_opens 11 = .ok (.invokevirtual 93, 3) := by decide +kernel
theorem dX6_opens_14 : decode cX6_opens 14 = .ok (.iconst 0, 1) := by decide +kernel
theorem dX6_opens_15 : decode cX6_opens 15 = .ok (.ireturn, 1) := by decide +kernel
theorem dX6_opens_16 : decode cX6_opens 16 = .ok (.aload_n 0, 1) := by decide +kernel
theorem dX6_opens_17 : decode cX6_opens 17 = .ok (.dup, 1) := by decide +kernel
theorem dX6_opens_18 : decode cX6_opens 18 = .ok (.getfield 50, 3) := by decide +kernel
theorem dX6_opens_21 : decode cX6_opens 21 = .ok (.iconst 1, 1) := by decide +kernel
theorem dX6_opens_22 : decode cX6_opens 22 = .ok (.iadd, 1) := by decide +kernel
theorem dX6_opens_23 : decode cX6_opens 23 = .ok (.putfield 50, 3) := by decide +kernel
theorem dX6_opens_26 : decode cX6_opens 26 = .ok (.aload_n 0, 1) := by decide +kernel
theorem dX6_opens_27 : decode cX6_opens 27 = .ok (.invokevirtual 59, 3) := by decide +kernel
theorem dX6_opens_30 : decode cX6_opens 30 = .ok (.iconst 1, 1) := by decide +kernel
theorem dX6_opens_31 : decode cX6_opens 31 = .ok (.ireturn, 1) := by decide +kernel
set_option maxRecDepth 20000 in
theorem ggX6_emit_X11_put : GoodIn wsX6_emit wsX11_put := goodIn_r _ [5] rfl (by decide +kernel)
set_option maxRecDepth 20000 in
theorem gX6_emit_X11_put_n34 : GoodIn wsX6_emit (wsX11_put) := ggX6_emit_X11_put
theorem dX6_emit_0 : decode cX6_emit 0 = .ok (.aload_n 0, 1) := by decide +kernel
theorem dX6_emit_1 : decode cX6_emit 1 = .ok (.getfield 28, 3) := by decide +kernel
theorem dX6_emit_4 : decode cX6_emit 4 = .ok (.aload_n 0, 1) := by decide +kernel
theorem dX6_emit_5 : decode cX6_emit 5 = .ok (.getfield 47, 3) := by decide +kernel
theorem dX6_emit_8 : decode cX6_emit 8 = .ok (.iload_n 1, 1) := by decide +kernel
theorem dX6_emit_9 : decode cX6_emit 9 = .ok (.iload_n 2, 1) := by decide +kernel
theorem dX6_emit_10 : decode cX6_emit 10 = .ok (.bipush 64, 2) := by decide +kernel
theorem dX6_emit_12 : decode cX6_emit 12 = .ok (.imul, 1) := by decide +kernel
theorem dX6_emit_13 : decode cX6_emit 13 = .ok (.iadd, 1) := by decide +kernel
theorem dX6_emit_14 : decode cX6_emit 14 = .ok (.invokestatic 34, 3) := by decide +kernel
theorem dX6_emit_17 : decode cX6_emit 17 = .ok (.aload_n 0, 1) := by decide +kernel
theorem dX6_emit_18 : decode cX6_emit 18 = .ok (.dup, 1) := by decide +kernel
theorem dX6_emit_19 : decode cX6_emit 19 = .ok (.getfield 47, 3) := by decide +kernel
theorem dX6_emit_22 : decode cX6_emit 22 = .ok (.iconst 1, 1) := by decide +kernel
theorem dX6_emit_23 : decode cX6_emit 23 = .ok (.iadd, 1) := by decide +kernel
theorem dX6_emit_24 : decode cX6_emit 24 = .ok (.putfield 47, 3) := by decide +kernel
theorem dX6_emit_27 : decode cX6_emit 27 = .ok (.return_, 1) := by decide +kernel
set_option maxRecDepth 20000 in
theorem ggX6_expect_X6_advance : GoodIn wsX6_expect wsX6_advance := goodIn_r _ [6, 7, 8, 9, 10, 11, 1, 12, 13, 14, 15, 16, 5, 17, 18, 19, 20, 21, 22, 23, 24, 25, 26, 27, 28, 29, 30, 31, 32, 33, 34, 35, 36, 37, 38, 39, 40, 41, 42, 43, 44, 45, 46, 47, 48, 49, 50, 51, 52, 53, 54, 55, 56, 57, 58, 59, 60, 61, 62, 63, 64, 65, 66, 67, 68, 69, 70, 71, 72, 73, 74, 75, 76, 77, 78, 79, 80, 81, 82, 83, 84, 85, 86, 87, 88, 89, 90, 91, 92, 97, 98, 99, 100, 101, 102, 103, 104, 105, 106, 107, 108, 109, 110, 111, 112] rfl (by decide +kernel)
set_option maxRecDepth 20000 in
theorem gX6_expect_X6_advance : GoodIn wsX6_expect (wsV RX6 59 RX6 yX6_advance wsX6_advance) := goodIn_app (goodIn_of _ (by decide +kernel)) ggX6_expect_X6_advance
set_option maxRecDepth 20000 in
theorem ggX6_expect_X6_fail : GoodIn wsX6_expect wsX6_fail := goodIn_r _ [96, 7, 1, 97, 98, 99, 100, 101, 102, 103, 104, 105, 106, 107, 108, 109, 110, 111, 112] rfl (by decide +kernel)
set_option maxRecDepth 20000 in
theorem gX6_expect_X6_fail : GoodIn wsX6_expect (wsV RX6 93 RX6 yX6_fail wsX6_fail) := goodIn_app (goodIn_of _ (by decide +kernel)) ggX6_expect_X6_fail
theorem dX6_expect_0 : decode cX6_expect 0 = .ok (.aload_n 0, 1) := by decide +kernel
theorem dX6_expect_1 : decode cX6_expect 1 = .ok (.getfield 62, 3) := by decide +kernel
theorem dX6_expect_4 : decode cX6_expect 4 = .ok (.iload_n 1, 1) := by decide +kernel
theorem dX6_expect_5 : decode cX6_expect 5 = .ok (.if_icmp .ne 10, 3) := by decide +kernel
theorem dX6_expect_8 : decode cX6_expect 8 = .ok (.aload_n 0, 1) := by decide +kernel
theorem dX6_expect_9 : decode cX6_expect 9 = .ok (.invokevirtual 59, 3) := by decide +kernel
theorem dX6_expect_12 : decode cX6_expect 12 = .ok (.goto 8, 3) := by decide +kernel
theorem dX6_expect_15 : decode cX6_expect 15 = .ok (.aload_n 0, 1) := by decide +kernel
theorem dX6_expect_16 : decode cX6_expect 16 = .ok (.iconst 1, 1) := by decide +kernel
theorem dX6_expect_17 : decode cX6_expect 17 = .ok (.invokevirtual 93, 3) := by decide +kernel
theorem dX6_expect_20 : decode cX6_expect 20 = .ok (.return_, 1) := by decide +kernel
theorem dX6_fail_0 : decode cX6_fail 0 = .ok (.aload_n 0, 1) := by decide +kernel
theorem dX6_fail_1 : decode cX6_fail 1 = .ok (.getfield 41, 3) := by decide +kernel
theorem dX6_fail_4 : decode cX6_fail 4 = .ok (.ifCond .ne 8, 3) := by decide +kernel
theorem dX6_fail_7 : decode cX6_fail 7 = .ok (.aload_n 0, 1) := by decide +kernel
theorem dX6_fail_8 : decode cX6_fail 8 = .ok (.iload_n 1, 1) := by decide +kernel
theorem dX6_fail_9 : decode cX6_fail 9 = .ok (.putfield 41, 3) := by decide +kernel
theorem dX6_fail_12 : decode cX6_fail 12 = .ok (.aload_n 0, 1) := by decide +kernel
theorem dX6_fail_13 : decode cX6_fail 13 = .ok (.bipush 30, 2) := by decide +kernel
theorem dX6_fail_15 : decode cX6_fail 15 = .ok (.putfield 62, 3) := by decide +kernel
theorem dX6_fail_18 : decode cX6_fail 18 = .ok (.return_, 1) := by decide +kernel
set_option maxRecDepth 20000 in
theorem ggX6_advance_X11_at : GoodIn wsX6_advance wsX11_at := goodIn_r _ [9] rfl (by decide +kernel)
set_option maxRecDepth 20000 in
theorem gX6_advance_X11_at_n100 : GoodIn wsX6_advance (wsX11_at) := ggX6_advance_X11_at
set_option maxRecDepth 20000 in
theorem ggX6_advance_X6_isBlank : GoodIn wsX6_advance wsX6_isBlank := goodIn_r _ [13] rfl (by decide +kernel)
set_option maxRecDepth 20000 in
theorem gX6_advance_X6_isBlank : GoodIn wsX6_advance (va_wsS RX6 159 yX6_isBlank wsX6_isBlank) := goodIn_app (goodIn_of _ (by decide +kernel)) ggX6_advance_X6_isBlank
set_option maxRecDepth 20000 in
theorem ggX6_advance_X6_isLetter : GoodIn wsX6_advance wsX6_isLetter := goodIn_r _ [16] rfl (by decide +kernel)
set_option maxRecDepth 20000 in
theorem gX6_advance_X6_isLetter : GoodIn wsX6_advance (va_wsS RX6 162 yX6_isLetter wsX6_isLetter) := goodIn_app (goodIn_of _ (by decide +kernel)) ggX6_advance_X6_isLetter
set_option maxRecDepth 20000 in
theorem ggX6_advance_X6_takeWord : GoodIn wsX6_advance wsX6_takeWord := goodIn_r _ [20, 2, 3, 4, 6, 5, 7, 8, 9, 14, 15, 12, 16, 21, 22, 23, 24, 25, 26, 27, 28, 29, 30, 31, 32, 33, 34, 35, 36, 37, 38, 39, 40, 41, 42, 43, 44, 45, 46, 47, 48, 49, 50, 51, 52, 53, 54, 55, 56, 57, 58, 59, 60, 61, 62, 63, 64, 65, 66, 67, 68, 69, 89, 90, 91, 92, 93, 94, 95, 96, 97, 98, 99, 100, 101, 102, 103, 104] rfl (by decide +kernel)
set_option maxRecDepth 20000 in
theorem gX6_advance_X6_takeWord : GoodIn wsX6_advance (wsV RX6 165 RX6 yX6_takeWord wsX6_takeWord) := goodIn_app (goodIn_of _ (by decide +kernel)) ggX6_advance_X6_takeWord
set_option maxRecDepth 20000 in
theorem ggX6_advance_X6_isDigit : GoodIn wsX6_advance wsX6_isDigit := goodIn_r _ [72] rfl (by decide +kernel)
set_option maxRecDepth 20000 in
theorem gX6_advance_X6_isDigit : GoodIn wsX6_advance (va_wsS RX6 168 yX6_isDigit wsX6_isDigit) := goodIn_app (goodIn_of _ (by decide +kernel)) ggX6_advance_X6_isDigit
set_option maxRecDepth 20000 in
theorem ggX6_advance_X6_takeNumber : GoodIn wsX6_advance wsX6_takeNumber := goodIn_r _ [76, 77, 2, 3, 4, 78, 79, 80, 81, 6, 7, 8, 9, 70, 71, 12, 72, 89, 90, 91, 92, 93, 94, 95, 96, 97, 98, 99, 100, 101, 102, 103, 104] rfl (by decide +kernel)
set_option maxRecDepth 20000 in
theorem gX6_advance_X6_takeNumber : GoodIn wsX6_advance (wsV RX6 171 RX6 yX6_takeNumber wsX6_takeNumber) := goodIn_app (goodIn_of _ (by decide +kernel)) ggX6_advance_X6_takeNumber
set_option maxRecDepth 20000 in
theorem ggX6_advance_X6_takeSign : GoodIn wsX6_advance wsX6_takeSign := goodIn_r _ [85, 2, 3, 4, 6, 7, 8, 9, 86, 87, 12, 88, 89, 90, 91, 92, 93, 94, 95, 96, 97, 98, 99, 100, 101, 102, 103, 104] rfl (by decide +kernel)
set_option maxRecDepth 20000 in
theorem gX6_advance_X6_takeSign : GoodIn wsX6_advance (wsV RX6 174 RX6 yX6_takeSign wsX6_takeSign) := goodIn_app (goodIn_of _ (by decide +kernel)) ggX6_advance_X6_takeSign
theorem dX6_advance_0 : decode cX6_advance 0 = .ok (.aload_n 0, 1) := by decide +kernel
theorem dX6_advance_1 : decode cX6_advance 1 = .ok (.getfield 41, 3) := by decide +kernel
theorem dX6_advance_4 : decode cX6_advance 4 = .ok (.ifCond .eq 4, 3) := by decide +kernel
theorem dX6_advance_7 : decode cX6_advance 7 = .ok (.return_, 1) := by decide +kernel
theorem dX6_advance_8 : decode cX6_advance 8 = .ok (.aload_n 0, 1) := by decide +kernel
theorem dX6_advance_9 : decode cX6_advance 9 = .ok (.getfield 38, 3) := by decide +kernel
theorem dX6_advance_12 : decode cX6_advance 12 = .ok (.aload_n 0, 1) := by decide +kernel
theorem dX6_advance_13 : decode cX6_advance 13 = .ok (.getfield 9, 3) := by decide +kernel
theorem dX6_advance_16 : decode cX6_advance 16 = .ok (.if_icmp .ge 33, 3) := by decide +kernel
theorem dX6_advance_19 : decode cX6_advance 19 = .ok (.aload_n 0, 1) := by decide +kernel
theorem dX6_advance_20 : decode cX6_advance 20 = .ok (.getfield 21, 3) := by decide +kernel
theorem dX6_advance_23 : decode cX6_advance 23 = .ok (.aload_n 0, 1) := by decide +kernel
theorem dX6_advance_24 : decode cX6_advance 24 = .ok (.getfield 38, 3) := by decide +kernel
theorem dX6_advance_27 : decode cX6_advance 27 = .ok (.invokestatic 100, 3) := by decide +kernel
theorem dX6_advance_30 : decode cX6_advance 30 = .ok (.invokestatic 159, 3) := by decide +kernel
theorem dX6_advance_33 : decode cX6_advance 33 = .ok (.ifCond .eq 16, 3) := by decide +kernel
theorem dX6_advance_36 : decode cX6_advance 36 = .ok (.aload_n 0, 1) := by decide +kernel
theorem dX6_advance_37 : decode cX6_advance 37 = .ok (.dup, 1) := by decide +kernel
theorem dX6_advance_38 : decode cX6_advance 38 = .ok (.getfield 38, 3) := by decide +kernel
theorem dX6_advance_41 : decode cX6_advance 41 = .ok (.iconst 1, 1) := by decide +kernel
theorem dX6_advance_42 : decode cX6_advance 42 = .ok (.iadd, 1) := by decide +kernel
theorem dX6_advance_43 : decode cX6_advance 43 = .ok (.putfield 38, 3) := by decide +kernel
theorem dX6_advance_46 : decode cX6_advance 46 = .ok (.goto (-38), 3) := by decide +kernel
theorem dX6_advance_49 : decode cX6_advance 49 = .ok (.aload_n 0, 1) := by decide +kernel
theorem dX6_advance_50 : decode cX6_advance 50 = .ok (.aload_n 0, 1) := by decide +kernel
theorem dX6_advance_51 : decode cX6_advance 51 = .ok (.getfield 38, 3) := by decide +kernel
theorem dX6_advance_54 : decode cX6_advance 54 = .ok (.putfield 68, 3) := by decide +kernel
theorem dX6_advance_57 : decode cX6_advance 57 = .ok (.aload_n 0, 1) := by decide +kernel
theorem dX6_advance_58 : decode cX6_advance 58 = .ok (.getfield 21, 3) := by decide +kernel
theorem dX6_advance_61 : decode cX6_advance 61 = .ok (.aload_n 0, 1) := by decide +kernel
theorem dX6_advance_62 : decode cX6_advance 62 = .ok (.getfield 38, 3) := by decide +kernel
theorem dX6_advance_65 : decode cX6_advance 65 = .ok (.invokestatic 100, 3) := by decide +kernel
theorem dX6_advance_68 : decode cX6_advance 68 = .ok (.istore_n 1, 1) := by decide +kernel
theorem dX6_advance_69 : decode cX6_advance 69 = .ok (.aload_n 0, 1) := by decide +kernel
theorem dX6_advance_70 : decode cX6_advance 70 = .ok (.getfield 38, 3) := by decide +kernel
theorem dX6_advance_73 : decode cX6_advance 73 = .ok (.aload_n 0, 1) := by decide +kernel
theorem dX6_advance_74 : decode cX6_advance 74 = .ok (.getfield 9, 3) := by decide +kernel
theorem dX6_advance_77 : decode cX6_advance 77 = .ok (.if_icmp .lt 12, 3) := by decide +kernel
theorem dX6_advance_80 : decode cX6_advance 80 = .ok (.aload_n 0, 1) := by decide +kernel
theorem dX6_advance_81 : decode cX6_advance 81 = .ok (.bipush 31, 2) := by decide +kernel
theorem dX6_advance_83 : decode cX6_advance 83 = .ok (.putfield 62, 3) := by decide +kernel
theorem dX6_advance_86 : decode cX6_advance 86 = .ok (.goto 36, 3) := by decide +kernel
theorem dX6_advance_89 : decode cX6_advance 89 = .ok (.iload_n 1, 1) := by decide +kernel
theorem dX6_advance_90 : decode cX6_advance 90 = .ok (.invokestatic 162, 3) := by decide +kernel
theorem dX6_advance_93 : decode cX6_advance 93 = .ok (.ifCond .eq 10, 3) := by decide +kernel
theorem dX6_advance_96 : decode cX6_advance 96 = .ok (.aload_n 0, 1) := by decide +kernel
theorem dX6_advance_97 : decode cX6_advance 97 = .ok (.invokevirtual 165, 3) := by decide +kernel
theorem dX6_advance_100 : decode cX6_advance 100 = .ok (.goto 22, 3) := by decide +kernel
theorem dX6_advance_103 : decode cX6_advance 103 = .ok (.iload_n 1, 1) := by decide +kernel
theorem dX6_advance_104 : decode cX6_advance 104 = .ok (.invokestatic 168, 3) := by decide +kernel
theorem dX6_advance_107 : decode cX6_advance 107 = .ok (.ifCond .eq 10, 3) := by decide +kernel
theorem dX6_advance_110 : decode cX6_advance 110 = .ok (.aload_n 0, 1) := by decide +kernel
theorem dX6_advance_111 : decode cX6_advance 111 = .ok (.invokevirtual 171, 3) := by decide +kernel
theorem dX6_advance_114 : decode cX6_advance 114 = .ok (.goto 8, 3) := by decide +kernel
theorem dX6_advance_117 : decode cX6_advance 117 = .ok (.aload_n 0, 1) := by decide +kernel
theorem dX6_advance_118 : decode cX6_advance 118 = .ok (.iload_n 1, 1) := by decide +kernel
theorem dX6_advance_119 : decode cX6_advance 119 = .ok (.invokevirtual 174, 3) := by decide +kernel
theorem dX6_advance_122 : decode cX6_advance 122 = .ok (.return_, 1) := by decide +kernel
theorem dX6_isBlank_0 : decode cX6_isBlank 0 = .ok (.iload_n 0, 1) := by decide +kernel
theorem dX6_isBlank_1 : decode cX6_isBlank 1 = .ok (.bipush 32, 2) := by decide +kernel
theorem dX6_isBlank_3 : decode cX6_isBlank 3 = .ok (.if_icmp .eq 9, 3) := by decide +kernel
theorem dX6_isBlank_6 : decode cX6_isBlank 6 = .ok (.iload_n 0, 1) := by decide +kernel
theorem dX6_isBlank_7 : decode cX6_isBlank 7 = .ok (.bipush 10, 2) := by decide +kernel
theorem dX6_isBlank_9 : decode cX6_isBlank 9 = .ok (.if_icmp .ne 7, 3) := by decide +kernel
theorem dX6_isBlank_12 : decode cX6_isBlank 12 = .ok (.iconst 1, 1) := by decide +kernel
theorem dX6_isBlank_13 : decode cX6_isBlank 13 = .ok (.goto 4, 3) := by decide +kernel
theorem dX6_isBlank_16 : decode cX6_isBlank 16 = .ok (.iconst 0, 1) := by decide +kernel
theorem dX6_isBlank_17 : decode cX6_isBlank 17 = .ok (.ireturn, 1) := by decide +kernel
theorem dX6_isLetter_0 : decode cX6_isLetter 0 = .ok (.iload_n 0, 1) := by decide +kernel
theorem dX6_isLetter_1 : decode cX6_isLetter 1 = .ok (.bipush 97, 2) := by decide +kernel
theorem dX6_isLetter_3 : decode cX6_isLetter 3 = .ok (.if_icmp .lt 9, 3) := by decide +kernel
theorem dX6_isLetter_6 : decode cX6_isLetter 6 = .ok (.iload_n 0, 1) := by decide +kernel
theorem dX6_isLetter_7 : decode cX6_isLetter 7 = .ok (.bipush 122, 2) := by decide +kernel
theorem dX6_isLetter_9 : decode cX6_isLetter 9 = .ok (.if_icmp .le 15, 3) := by decide +kernel
theorem dX6_isLetter_12 : decode cX6_isLetter 12 = .ok (.iload_n 0, 1) := by decide +kernel
theorem dX6_isLetter_13 : decode cX6_isLetter 13 = .ok (.bipush 65, 2) := by decide +kernel
theorem dX6_isLetter_15 : decode cX6_isLetter 15 = .ok (.if_icmp .lt 13, 3) := by decide +kernel
theorem dX6_isLetter_18 : decode cX6_isLetter 18 = .ok (.iload_n 0, 1) := by decide +kernel
theorem dX6_isLetter_19 : decode cX6_isLetter 19 = .ok (.bipush 90, 2) := by decide +kernel
theorem dX6_isLetter_21 : decode cX6_isLetter 21 = .ok (.if_icmp .gt 7, 3) := by decide +kernel
theorem dX6_isLetter_24 : decode cX6_isLetter 24 = .ok (.iconst 1, 1) := by decide +kernel
theorem dX6_isLetter_25 : decode cX6_isLetter 25 = .ok (.goto 4, 3) := by decide +kernel
theorem dX6_isLetter_28 : decode cX6_isLetter 28 = .ok (.iconst 0, 1) := by decide +kernel
theorem dX6_isLetter_29 : decode cX6_isLetter 29 = .ok (.ireturn, 1) := by decide +kernel
theorem dX6_isDigit_0 : decode cX6_isDigit 0 = .ok (.iload_n 0, 1) := by decide +kernel
theorem dX6_isDigit_1 : decode cX6_isDigit 1 = .ok (.bipush 48, 2) := by decide +kernel
theorem dX6_isDigit_3 : decode cX6_isDigit 3 = .ok (.if_icmp .lt 13, 3) := by decide +kernel
theorem dX6_isDigit_6 : decode cX6_isDigit 6 = .ok (.iload_n 0, 1) := by decide +kernel
theorem dX6_isDigit_7 : decode cX6_isDigit 7 = .ok (.bipush 57, 2) := by decide +kernel
theorem dX6_isDigit_9 : decode cX6_isDigit 9 = .ok (.if_icmp .gt 7, 3) := by decide +kernel
theorem dX6_isDigit_12 : decode cX6_isDigit 12 = .ok (.iconst 1, 1) := by decide +kernel
theorem dX6_isDigit_13 : decode cX6_isDigit 13 = .ok (.goto 4, 3) := by decide +kernel
theorem dX6_isDigit_16 : decode cX6_isDigit 16 = .ok (.iconst 0, 1) := by decide +kernel
theorem dX6_isDigit_17 : decode cX6_isDigit 17 = .ok (.ireturn, 1) := by decide +kernel
set_option maxRecDepth 20000 in
theorem ggX6_takeWord_X11_at : GoodIn wsX6_takeWord wsX11_at := goodIn_r _ [8] rfl (by decide +kernel)
set_option maxRecDepth 20000 in
theorem gX6_takeWord_X11_at_n100 : GoodIn wsX6_takeWord (wsX11_at) := ggX6_takeWord_X11_at
set_option maxRecDepth 20000 in
theorem ggX6_takeWord_X6_isLetter : GoodIn wsX6_takeWord wsX6_isLetter := goodIn_r _ [12] rfl (by decide +kernel)
set_option maxRecDepth 20000 in
theorem gX6_takeWord_X6_isLetter : GoodIn wsX6_takeWord (va_wsS RX6 162 yX6_isLetter wsX6_isLetter) := goodIn_app (goodIn_of _ (by decide +kernel)) ggX6_takeWord_X6_isLetter
set_option maxRecDepth 20000 in
theorem ggX6_takeWord_J0_length_8abf5 : GoodIn wsX6_takeWord wsJ0_length_8abf5 := goodIn_r _ [17, 18, 19, 20, 21, 16, 22, 23, 24] rfl (by decide +kernel)
set_option maxRecDepth 20000 in
theorem gX6_takeWord_J0_length_8abf5 : GoodIn wsX6_takeWord (wsV RX6 179 RJ0 yJ0_length_8abf5 wsJ0_length_8abf5) := goodIn_app (goodIn_of _ (by decide +kernel)) ggX6_takeWord_J0_length_8abf5
set_option maxRecDepth 20000 in
theorem ggX6_takeWord_J0_charAt_5068e : GoodIn wsX6_takeWord wsJ0_charAt_5068e := goodIn_r _ [28, 18, 29, 30, 31, 16, 32, 23, 24, 33, 34, 35, 36, 37, 38, 39, 40, 41, 42, 43, 44, 45, 46, 47, 48, 49, 50, 51, 52, 53, 54, 55, 56, 57, 58, 59, 60, 61] rfl (by decide +kernel)
set_option maxRecDepth 20000 in
theorem gX6_takeWord_J0_charAt_5068e : GoodIn wsX6_takeWord (wsV RX6 184 RJ0 yJ0_charAt_5068e wsJ0_charAt_5068e) := goodIn_app (goodIn_of _ (by decide +kernel)) ggX6_takeWord_J0_charAt_5068e
theorem dX6_takeWord_0 : decode cX6_takeWord 0 = .ok (.aload_n 0, 1) := by decide +kernel
theorem dX6_takeWord_1 : decode cX6_takeWord 1 = .ok (.getfield 38, 3) := by decide +kernel
theorem dX6_takeWord_4 : decode cX6_takeWord 4 = .ok (.aload_n 0, 1) := by decide +kernel
theorem dX6_takeWord_5 : decode cX6_takeWord 5 = .ok (.getfield 9, 3) := by decide +kernel
theorem dX6_takeWord_8 : decode cX6_takeWord 8 = .ok (.if_icmp .ge 33, 3) := by decide +kernel
theorem dX6_takeWord_11 : decode cX6_takeWord 11 = .ok (.aload_n 0, 1) := by decide +kernel
theorem dX6_takeWord_12 : decode cX6_takeWord 12 = .ok (.getfield 21, 3) := by decide +kernel
theorem dX6_takeWord_15 : decode cX6_takeWord 15 = .ok (.aload_n 0, 1) := by decide +kernel
theorem dX6_takeWord_16 : decode cX6_takeWord 16 = .ok (.getfield 38, 3) := by decide +kernel
theorem dX6_takeWord_19 : decode cX6_takeWord 19 = .ok (.invokestatic 100, 3) := by decide +kernel
theorem dX6_takeWord_22 : decode cX6_takeWord 22 = .ok (.invokestatic 162, 3) := by decide +kernel
theorem dX6_takeWord_25 : decode cX6_takeWord 25 = .ok (.ifCond .eq 16, 3) := by decide +kernel
theorem dX6_takeWord_28 : decode cX6_takeWord 28 = .ok (.aload_n 0, 1) := by decide +kernel
theorem dX6_takeWord_29 : decode cX6_takeWord 29 = .ok (.dup, 1) := by decide +kernel
theorem dX6_takeWord_30 : decode cX6_takeWord 30 = .ok (.getfield 38, 3) := by decide +kernel
theorem dX6_takeWord_33 : decode cX6_takeWord 33 = .ok (.iconst 1, 1) := by decide +kernel
theorem dX6_takeWord_34 : decode cX6_takeWord 34 = .ok (.iadd, 1) := by decide +kernel
theorem dX6_takeWord_35 : decode cX6_takeWord 35 = .ok (.putfield 38, 3) := by decide +kernel
theorem dX6_takeWord_38 : decode cX6_takeWord 38 = .ok (.goto (-38), 3) := by decide +kernel
theorem dX6_takeWord_41 : decode cX6_takeWord 41 = .ok (.aload_n 0, 1) := by decide +kernel
theorem dX6_takeWord_42 : decode cX6_takeWord 42 = .ok (.bipush 30, 2) := by decide +kernel
theorem dX6_takeWord_44 : decode cX6_takeWord 44 = .ok (.putfield 62, 3) := by decide +kernel
theorem dX6_takeWord_47 : decode cX6_takeWord 47 = .ok (.iconst 0, 1) := by decide +kernel
theorem dX6_takeWord_48 : decode cX6_takeWord 48 = .ok (.istore_n 1, 1) := by decide +kernel
theorem dX6_takeWord_49 : decode cX6_takeWord 49 = .ok (.aload_n 0, 1) := by decide +kernel
theorem dX6_takeWord_50 : decode cX6_takeWord 50 = .ok (.getfield 68, 3) := by decide +kernel
theorem dX6_takeWord_53 : decode cX6_takeWord 53 = .ok (.istore_n 2, 1) := by decide +kernel
theorem dX6_takeWord_54 : decode cX6_takeWord 54 = .ok (.iconst 1, 1) := by decide +kernel
theorem dX6_takeWord_55 : decode cX6_takeWord 55 = .ok (.istore_n 3, 1) := by decide +kernel
theorem dX6_takeWord_56 : decode cX6_takeWord 56 = .ok (.iconst 0, 1) := by decide +kernel
theorem dX6_takeWord_57 : decode cX6_takeWord 57 = .ok (.istore 4, 2) := by decide +kernel
theorem dX6_takeWord_59 : decode cX6_takeWord 59 = .ok (.iload 4, 2) := by decide +kernel
theorem dX6_takeWord_61 : decode cX6_takeWord 61 = .ok (.ldc 177, 2) := by decide +kernel
theorem dX6_takeWord_63 : decode cX6_takeWord 63 = .ok (.invokevirtual 179, 3) := by decide +kernel
theorem dX6_takeWord_66 : decode cX6_takeWord 66 = .ok (.if_icmp .ge 101, 3) := by decide +kernel
theorem dX6_takeWord_69 : decode cX6_takeWord 69 = .ok (.aload_n 0, 1) := by decide +kernel
theorem dX6_takeWord_70 : decode cX6_takeWord 70 = .ok (.getfield 62, 3) := by decide +kernel
theorem dX6_takeWord_73 : decode cX6_takeWord 73 = .ok (.bipush 30, 2) := by decide +kernel
theorem dX6_takeWord_75 : decode cX6_takeWord 75 = .ok (.if_icmp .ne 92, 3) := by decide +kernel
theorem dX6_takeWord_78 : decode cX6_takeWord 78 = .ok (.ldc 177, 2) := by decide +kernel
theorem dX6_takeWord_80 : decode cX6_takeWord 80 = .ok (.iload 4, 2) := by decide +kernel
theorem dX6_takeWord_82 : decode cX6_takeWord 82 = .ok (.invokevirtual 184, 3) := by decide +kernel
theorem dX6_takeWord_85 : decode cX6_takeWord 85 = .ok (.istore 5, 2) := by decide +kernel
theorem dX6_takeWord_87 : decode cX6_takeWord 87 = .ok (.iload 5, 2) := by decide +kernel
theorem dX6_takeWord_89 : decode cX6_takeWord 89 = .ok (.bipush 32, 2) := by decide +kernel
theorem dX6_takeWord_91 : decode cX6_takeWord 91 = .ok (.if_icmp .eq 40, 3) := by decide +kernel
theorem dX6_takeWord_94 : decode cX6_takeWord 94 = .ok (.iload_n 3, 1) := by decide +kernel
theorem dX6_takeWord_95 : decode cX6_takeWord 95 = .ok (.ifCond .eq 28, 3) := by decide +kernel
theorem dX6_takeWord_98 : decode cX6_takeWord 98 = .ok (.iload_n 2, 1) := by decide +kernel
theorem dX6_takeWord_99 : decode cX6_takeWord 99 = .ok (.aload_n 0, 1) := by decide +kernel
theorem dX6_takeWord_100 : decode cX6_takeWord 100 = .ok (.getfield 38, 3) := by decide +kernel
theorem dX6_takeWord_103 : decode cX6_takeWord 103 = .ok (.if_icmp .ge 20, 3) := by decide +kernel
theorem dX6_takeWord_106 : decode cX6_takeWord 106 = .ok (.aload_n 0, 1) := by decide +kernel
theorem dX6_takeWord_107 : decode cX6_takeWord 107 = .ok (.getfield 21, 3) := by decide +kernel
theorem dX6_takeWord_110 : decode cX6_takeWord 110 = .ok (.iload_n 2, 1) := by decide +kernel
theorem dX6_takeWord_111 : decode cX6_takeWord 111 = .ok (.invokestatic 100, 3) := by decide +kernel
theorem dX6_takeWord_114 : decode cX6_takeWord 114 = .ok (.iload 5, 2) := by decide +kernel
theorem dX6_takeWord_116 : decode cX6_takeWord 116 = .ok (.if_icmp .ne 7, 3) := by decide +kernel
theorem dX6_takeWord_119 : decode cX6_takeWord 119 = .ok (.iconst 1, 1) := by decide +kernel
theorem dX6_takeWord_120 : decode cX6_takeWord 120 = .ok (.goto 4, 3) := by decide +kernel
theorem dX6_takeWord_123 : decode cX6_takeWord 123 = .ok (.iconst 0, 1) := by decide +kernel
theorem dX6_takeWord_124 : decode cX6_takeWord 124 = .ok (.istore_n 3, 1) := by decide +kernel
theorem dX6_takeWord_125 : decode cX6_takeWord 125 = .ok (.iinc 2 1, 3) := by decide +kernel
theorem dX6_takeWord_128 : decode cX6_takeWord 128 = .ok (.goto 33, 3) := by decide +kernel
theorem dX6_takeWord_131 : decode cX6_takeWord 131 = .ok (.iload_n 3, 1) := by decide +kernel
theorem dX6_takeWord_132 : decode cX6_takeWord 132 = .ok (.ifCond .eq 19, 3) := by decide +kernel
theorem dX6_takeWord_135 : decode cX6_takeWord 135 = .ok (.iload_n 2, 1) := by decide +kernel
theorem dX6_takeWord_136 : decode cX6_takeWord 136 = .ok (.aload_n 0, 1) := by decide +kernel
theorem dX6_takeWord_137 : decode cX6_takeWord 137 = .ok (.getfield 38, 3) := by decide +kernel
theorem dX6_takeWord_140 : decode cX6_takeWord 140 = .ok (.if_icmp .ne 11, 3) := by decide +kernel
theorem dX6_takeWord_143 : decode cX6_takeWord 143 = .ok (.aload_n 0, 1) := by decide +kernel
theorem dX6_takeWord_144 : decode cX6_takeWord 144 = .ok (.iload_n 1, 1) := by decide +kernel
theorem dX6_takeWord_145 : decode cX6_takeWord 145 = .ok (.putfield 62, 3) := by decide +kernel
theorem dX6_takeWord_148 : decode cX6_takeWord 148 = .ok (.goto 13, 3) := by decide +kernel
theorem dX6_takeWord_151 : decode cX6_takeWord 151 = .ok (.iinc 1 1, 3) := by decide +kernel
theorem dX6_takeWord_154 : decode cX6_takeWord 154 = .ok (.aload_n 0, 1) := by decide +kernel
theorem dX6_takeWord_155 : decode cX6_takeWord 155 = .ok (.getfield 68, 3) := by decide +kernel
theorem dX6_takeWord_158 : decode cX6_takeWord 158 = .ok (.istore_n 2, 1) := by decide +kernel
theorem dX6_takeWord_159 : decode cX6_takeWord 159 = .ok (.iconst 1, 1) := by decide +kernel
theorem dX6_takeWord_160 : decode cX6_takeWord 160 = .ok (.istore_n 3, 1) := by decide +kernel
theorem dX6_takeWord_161 : decode cX6_takeWord 161 = .ok (.iinc 4 1, 3) := by decide +kernel
theorem dX6_takeWord_164 : decode cX6_takeWord 164 = .ok (.goto (-105), 3) := by decide +kernel
theorem dX6_takeWord_167 : decode cX6_takeWord 167 = .ok (.return_, 1) := by decide +kernel
set_option maxRecDepth 20000 in
theorem ggX6_takeNumber_X11_at : GoodIn wsX6_takeNumber wsX11_at := goodIn_r _ [12] rfl (by decide +kernel)
set_option maxRecDepth 20000 in
theorem gX6_takeNumber_X11_at_n100 : GoodIn wsX6_takeNumber (wsX11_at) := ggX6_takeNumber_X11_at
set_option maxRecDepth 20000 in
theorem ggX6_takeNumber_X6_isDigit : GoodIn wsX6_takeNumber wsX6_isDigit := goodIn_r _ [16] rfl (by decide +kernel)
set_option maxRecDepth 20000 in
theorem gX6_takeNumber_X6_isDigit : GoodIn wsX6_takeNumber (va_wsS RX6 168 yX6_isDigit wsX6_isDigit) := goodIn_app (goodIn_of _ (by decide +kernel)) ggX6_takeNumber_X6_isDigit
theorem dX6_takeNumber_0 : decode cX6_takeNumber 0 = .ok (.aload_n 0, 1) := by decide +kernel
theorem dX6_takeNumber_1 : decode cX6_takeNumber 1 = .ok (.iconst 0, 1) := by decide +kernel
theorem dX6_takeNumber_2 : decode cX6_takeNumber 2 = .ok (.putfield 120, 3) := by decide +kernel
theorem dX6_takeNumber_5 : decode cX6_takeNumber 5 = .ok (.aload_n 0, 1) := by decide +kernel
theorem dX6_takeNumber_6 : decode cX6_takeNumber 6 = .ok (.getfield 38, 3) := by decide +kernel
theorem dX6_takeNumber_9 : decode cX6_takeNumber 9 = .ok (.aload_n 0, 1) := by decide +kernel
theorem dX6_takeNumber_10 : decode cX6_takeNumber 10 = .ok (.getfield 9, 3) := by decide +kernel
theorem dX6_takeNumber_13 : decode cX6_takeNumber 13 = .ok (.if_icmp .ge 65, 3) := by decide +kernel
theorem dX6_takeNumber_16 : decode cX6_takeNumber 16 = .ok (.aload_n 0, 1) := by decide +kernel
theorem dX6_takeNumber_17 : decode cX6_takeNumber 17 = .ok (.getfield 21, 3) := by decide +kernel
theorem dX6_takeNumber_20 : decode cX6_takeNumber 20 = .ok (.aload_n 0, 1) := by decide +kernel
theorem dX6_takeNumber_21 : decode cX6_takeNumber 21 = .ok (.getfield 38, 3) := by decide +kernel
theorem dX6_takeNumber_24 : decode cX6_takeNumber 24 = .ok (.invokestatic 100, 3) := by decide +kernel
theorem dX6_takeNumber_27 : decode cX6_takeNumber 27 = .ok (.invokestatic 168, 3) := by decide +kernel
theorem dX6_takeNumber_30 : decode cX6_takeNumber 30 = .ok (.ifCond .eq 48, 3) := by decide +kernel
theorem dX6_takeNumber_33 : decode cX6_takeNumber 33 = .ok (.aload_n 0, 1) := by decide +kernel
theorem dX6_takeNumber_34 : decode cX6_takeNumber 34 = .ok (.aload_n 0, 1) := by decide +kernel
theorem dX6_takeNumber_35 : decode cX6_takeNumber 35 = .ok (.getfield 120, 3) := by decide +kernel
theorem dX6_takeNumber_38 : decode cX6_takeNumber 38 = .ok (.bipush 10, 2) := by decide +kernel
theorem dX6_takeNumber_40 : decode cX6_takeNumber 40 = .ok (.imul, 1) := by decide +kernel
theorem dX6_takeNumber_41 : decode cX6_takeNumber 41 = .ok (.aload_n 0, 1) := by decide +kernel
theorem dX6_takeNumber_42 : decode cX6_takeNumber 42 = .ok (.getfield 21, 3) := by decide +kernel
theorem dX6_takeNumber_45 : decode cX6_takeNumber 45 = .ok (.aload_n 0, 1) := by decide +kernel
theorem dX6_takeNumber_46 : decode cX6_takeNumber 46 = .ok (.getfield 38, 3) := by decide +kernel
theorem dX6_takeNumber_49 : decode cX6_takeNumber 49 = .ok (.invokestatic 100, 3) := by decide +kernel
theorem dX6_takeNumber_52 : decode cX6_takeNumber 52 = .ok (.iadd, 1) := by decide +kernel
theorem dX6_takeNumber_53 : decode cX6_takeNumber 53 = .ok (.bipush 48, 2) := by decide +kernel
theorem dX6_takeNumber_55 : decode cX6_takeNumber 55 = .ok (.isub, 1) := by decide +kernel
theorem dX6_takeNumber_56 : decode cX6_takeNumber 56 = .ok (.sipush 10000, 3) := by decide +kernel
theorem dX6_takeNumber_59 : decode cX6_takeNumber 59 = .ok (.invokestatic 188, 3) := by decide +kernel
theorem dX6_takeNumber_62 : decode cX6_takeNumber 62 = .ok (.putfield 120, 3) := by decide +kernel
theorem dX6_takeNumber_65 : decode cX6_takeNumber 65 = .ok (.aload_n 0, 1) := by decide +kernel
theorem dX6_takeNumber_66 : decode cX6_takeNumber 66 = .ok (.dup, 1) := by decide +kernel
theorem dX6_takeNumber_67 : decode cX6_takeNumber 67 = .ok (.getfield 38, 3) := by decide +kernel
theorem dX6_takeNumber_70 : decode cX6_takeNumber 70 = .ok (.iconst 1, 1) := by decide +kernel
theorem dX6_takeNumber_71 : decode cX6_takeNumber 71 = .ok (.iadd, 1) := by decide +kernel
theorem dX6_takeNumber_72 : decode cX6_takeNumber 72 = .ok (.putfield 38, 3) := by decide +kernel
theorem dX6_takeNumber_75 : decode cX6_takeNumber 75 = .ok (.goto (-70), 3) := by decide +kernel
theorem dX6_takeNumber_78 : decode cX6_takeNumber 78 = .ok (.aload_n 0, 1) := by decide +kernel
theorem dX6_takeNumber_79 : decode cX6_takeNumber 79 = .ok (.bipush 32, 2) := by decide +kernel
theorem dX6_takeNumber_81 : decode cX6_takeNumber 81 = .ok (.putfield 62, 3) := by decide +kernel
theorem dX6_takeNumber_84 : decode cX6_takeNumber 84 = .ok (.return_, 1) := by decide +kernel
set_option maxRecDepth 20000 in
theorem ggX6_takeSign_X11_at : GoodIn wsX6_takeSign wsX11_at := goodIn_r _ [7] rfl (by decide +kernel)
set_option maxRecDepth 20000 in
theorem gX6_takeSign_X11_at_n100 : GoodIn wsX6_takeSign (wsX11_at) := ggX6_takeSign_X11_at
set_option maxRecDepth 20000 in
theorem ggX6_takeSign_X6_plainSign : GoodIn wsX6_takeSign wsX6_plainSign := goodIn_r _ [11] rfl (by decide +kernel)
set_option maxRecDepth 20000 in
theorem gX6_takeSign_X6_plainSign : GoodIn wsX6_takeSign (va_wsS RX6 194 yX6_plainSign wsX6_plainSign) := goodIn_app (goodIn_of _ (by decide +kernel)) ggX6_takeSign_X6_plainSign
theorem dX6_takeSign_0 : decode cX6_takeSign 0 = .ok (.aload_n 0, 1) := by decide +kernel
theorem dX6_takeSign_1 : decode cX6_takeSign 1 = .ok (.getfield 38, 3) := by decide +kernel
theorem dX6_takeSign_4 : decode cX6_takeSign 4 = .ok (.iconst 1, 1) := by decide +kernel
theorem dX6_takeSign_5 : decode cX6_takeSign 5 = .ok (.iadd, 1) := by decide +kernel
theorem dX6_takeSign_6 : decode cX6_takeSign 6 = .ok (.aload_n 0, 1) := by decide +kernel
theorem dX6_takeSign_7 : decode cX6_takeSign 7 = .ok (.getfield 9, 3) := by decide +kernel
theorem dX6_takeSign_10 : decode cX6_takeSign 10 = .ok (.if_icmp .ge 25, 3) := by decide +kernel
theorem dX6_takeSign_13 : decode cX6_takeSign 13 = .ok (.aload_n 0, 1) := by decide +kernel
theorem dX6_takeSign_14 : decode cX6_takeSign 14 = .ok (.getfield 21, 3) := by decide +kernel
theorem dX6_takeSign_17 : decode cX6_takeSign 17 = .ok (.aload_n 0, 1) := by decide +kernel
theorem dX6_takeSign_18 : decode cX6_takeSign 18 = .ok (.getfield 38, 3) := by decide +kernel
theorem dX6_takeSign_21 : decode cX6_takeSign 21 = .ok (.iconst 1, 1) := by decide +kernel
theorem dX6_takeSign_22 : decode cX6_takeSign 22 = .ok (.iadd, 1) := by decide +kernel
theorem dX6_takeSign_23 : decode cX6_takeSign 23 = .ok (.invokestatic 100, 3) := by decide +kernel
theorem dX6_takeSign_26 : decode cX6_takeSign 26 = .ok (.bipush 61, 2) := by decide +kernel
theorem dX6_takeSign_28 : decode cX6_takeSign 28 = .ok (.if_icmp .ne 7, 3) := by decide +kernel
theorem dX6_takeSign_31 : decode cX6_takeSign 31 = .ok (.iconst 1, 1) := by decide +kernel
theorem dX6_takeSign_32 : decode cX6_takeSign 32 = .ok (.goto 4, 3) := by decide +kernel
theorem dX6_takeSign_35 : decode cX6_takeSign 35 = .ok (.iconst 0, 1) := by decide +kernel
theorem dX6_takeSign_36 : decode cX6_takeSign 36 = .ok (.istore_n 2, 1) := by decide +kernel
theorem dX6_takeSign_37 : decode cX6_takeSign 37 = .ok (.iload_n 1, 1) := by decide +kernel
theorem dX6_takeSign_38 : decode cX6_takeSign 38 = .ok (.bipush 60, 2) := by decide +kernel
theorem dX6_takeSign_40 : decode cX6_takeSign 40 = .ok (.if_icmp .ne 21, 3) := by decide +kernel
theorem dX6_takeSign_43 : decode cX6_takeSign 43 = .ok (.aload_n 0, 1) := by decide +kernel
theorem dX6_takeSign_44 : decode cX6_takeSign 44 = .ok (.iload_n 2, 1) := by decide +kernel
theorem dX6_takeSign_45 : decode cX6_takeSign 45 = .ok (.ifCond .eq 8, 3) := by decide +kernel
theorem dX6_takeSign_48 : decode cX6_takeSign 48 = .ok (.bipush 33, 2) := by decide +kernel
theorem dX6_takeSign_50 : decode cX6_takeSign 50 = .ok (.goto 5, 3) := by decide +kernel
theorem dX6_takeSign_53 : decode cX6_takeSign 53 = .ok (.bipush 35, 2) := by decide +kernel
theorem dX6_takeSign_55 : decode cX6_takeSign 55 = .ok (.putfield 62, 3) := by decide +kernel
theorem dX6_takeSign_58 : decode cX6_takeSign 58 = .ok (.goto 35, 3) := by decide +kernel
theorem dX6_takeSign_61 : decode cX6_takeSign 61 = .ok (.iload_n 1, 1) := by decide +kernel
theorem dX6_takeSign_62 : decode cX6_takeSign 62 = .ok (.bipush 62, 2) := by decide +kernel
theorem dX6_takeSign_64 : decode cX6_takeSign 64 = .ok (.if_icmp .ne 21, 3) := by decide +kernel
theorem dX6_takeSign_67 : decode cX6_takeSign 67 = .ok (.aload_n 0, 1) := by decide +kernel
theorem dX6_takeSign_68 : decode cX6_takeSign 68 = .ok (.iload_n 2, 1) := by decide +kernel
theorem dX6_takeSign_69 : decode cX6_takeSign 69 = .ok (.ifCond .eq 8, 3) := by decide +kernel
theorem dX6_takeSign_72 : decode cX6_takeSign 72 = .ok (.bipush 34, 2) := by decide +kernel
theorem dX6_takeSign_74 : decode cX6_takeSign 74 = .ok (.goto 5, 3) := by decide +kernel
theorem dX6_takeSign_77 : decode cX6_takeSign 77 = .ok (.bipush 36, 2) := by decide +kernel
theorem dX6_takeSign_79 : decode cX6_takeSign 79 = .ok (.putfield 62, 3) := by decide +kernel
theorem dX6_takeSign_82 : decode cX6_takeSign 82 = .ok (.goto 11, 3) := by decide +kernel
theorem dX6_takeSign_85 : decode cX6_takeSign 85 = .ok (.aload_n 0, 1) := by decide +kernel
theorem dX6_takeSign_86 : decode cX6_takeSign 86 = .ok (.iload_n 1, 1) := by decide +kernel
theorem dX6_takeSign_87 : decode cX6_takeSign 87 = .ok (.invokestatic 194, 3) := by decide +kernel
theorem dX6_takeSign_90 : decode cX6_takeSign 90 = .ok (.putfield 62, 3) := by decide +kernel
theorem dX6_takeSign_93 : decode cX6_takeSign 93 = .ok (.aload_n 0, 1) := by decide +kernel
theorem dX6_takeSign_94 : decode cX6_takeSign 94 = .ok (.dup, 1) := by decide +kernel
theorem dX6_takeSign_95 : decode cX6_takeSign 95 = .ok (.getfield 38, 3) := by decide +kernel
theorem dX6_takeSign_98 : decode cX6_takeSign 98 = .ok (.aload_n 0, 1) := by decide +kernel
theorem dX6_takeSign_99 : decode cX6_takeSign 99 = .ok (.getfield 62, 3) := by decide +kernel
theorem dX6_takeSign_102 : decode cX6_takeSign 102 = .ok (.bipush 33, 2) := by decide +kernel
theorem dX6_takeSign_104 : decode cX6_takeSign 104 = .ok (.if_icmp .eq 12, 3) := by decide +kernel
theorem dX6_takeSign_107 : decode cX6_takeSign 107 = .ok (.aload_n 0, 1) := by decide +kernel
theorem dX6_takeSign_108 : decode cX6_takeSign 108 = .ok (.getfield 62, 3) := by decide +kernel
theorem dX6_takeSign_111 : decode cX6_takeSign 111 = .ok (.bipush 34, 2) := by decide +kernel
theorem dX6_takeSign_113 : decode cX6_takeSign 113 = .ok (.if_icmp .ne 7, 3) := by decide +kernel
theorem dX6_takeSign_116 : decode cX6_takeSign 116 = .ok (.iconst 2, 1) := by decide +kernel
theorem dX6_takeSign_117 : decode cX6_takeSign 117 = .ok (.goto 4, 3) := by decide +kernel
theorem dX6_takeSign_120 : decode cX6_takeSign 120 = .ok (.iconst 1, 1) := by decide +kernel
theorem dX6_takeSign_121 : decode cX6_takeSign 121 = .ok (.iadd, 1) := by decide +kernel
theorem dX6_takeSign_122 : decode cX6_takeSign 122 = .ok (.putfield 38, 3) := by decide +kernel
theorem dX6_takeSign_125 : decode cX6_takeSign 125 = .ok (.return_, 1) := by decide +kernel
theorem dX6_plainSign_0 : decode cX6_plainSign 0 = .ok (.iload_n 0, 1) := by decide +kernel
theorem dX6_plainSign_1 : decode cX6_plainSign 1 = .ok (.tableswitch 150 35 61 #[126, 150, 150, 150, 150, 141, 144, 135, 129, 150, 132, 150, 138, 150, 150, 150, 150, 150, 150, 150, 150, 150, 150, 150, 147, 150, 123], 123) := by decide +kernel
theorem dX6_plainSign_124 : decode cX6_plainSign 124 = .ok (.bipush 37, 2) := by decide +kernel
theorem dX6_plainSign_126 : decode cX6_plainSign 126 = .ok (.ireturn, 1) := by decide +kernel
theorem dX6_plainSign_127 : decode cX6_plainSign 127 = .ok (.bipush 38, 2) := by decide +kernel
theorem dX6_plainSign_129 : decode cX6_plainSign 129 = .ok (.ireturn, 1) := by decide +kernel
theorem dX6_plainSign_130 : decode cX6_plainSign 130 = .ok (.bipush 39, 2) := by decide +kernel
theorem dX6_plainSign_132 : decode cX6_plainSign 132 = .ok (.ireturn, 1) := by decide +kernel
theorem dX6_plainSign_133 : decode cX6_plainSign 133 = .ok (.bipush 40, 2) := by decide +kernel
theorem dX6_plainSign_135 : decode cX6_plainSign 135 = .ok (.ireturn, 1) := by decide +kernel
theorem dX6_plainSign_136 : decode cX6_plainSign 136 = .ok (.bipush 41, 2) := by decide +kernel
theorem dX6_plainSign_138 : decode cX6_plainSign 138 = .ok (.ireturn, 1) := by decide +kernel
theorem dX6_plainSign_139 : decode cX6_plainSign 139 = .ok (.bipush 42, 2) := by decide +kernel
theorem dX6_plainSign_141 : decode cX6_plainSign 141 = .ok (.ireturn, 1) := by decide +kernel
theorem dX6_plainSign_142 : decode cX6_plainSign 142 = .ok (.bipush 43, 2) := by decide +kernel
theorem dX6_plainSign_144 : decode cX6_plainSign 144 = .ok (.ireturn, 1) := by decide +kernel
theorem dX6_plainSign_145 : decode cX6_plainSign 145 = .ok (.bipush 44, 2) := by decide +kernel
theorem dX6_plainSign_147 : decode cX6_plainSign 147 = .ok (.ireturn, 1) := by decide +kernel
theorem dX6_plainSign_148 : decode cX6_plainSign 148 = .ok (.bipush 45, 2) := by decide +kernel
theorem dX6_plainSign_150 : decode cX6_plainSign 150 = .ok (.ireturn, 1) := by decide +kernel
theorem dX6_plainSign_151 : decode cX6_plainSign 151 = .ok (.bipush 30, 2) := by decide +kernel
theorem dX6_plainSign_153 : decode cX6_plainSign 153 = .ok (.ireturn, 1) := by decide +kernel
