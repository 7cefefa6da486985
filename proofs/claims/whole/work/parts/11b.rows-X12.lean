theorem dX12_beginOne_73 : decode cX12_beginOne 73 = .ok (.aload_n 0, 1) := by decide +kernel
theorem dX12_beginOne_74 : decode cX12_beginOne 74 = .ok (.getfield 119, 3) := by decide +kernel
theorem dX12_beginOne_77 : decode cX12_beginOne 77 = .ok (.goto 4, 3) := by decide +kernel
theorem dX12_beginOne_80 : decode cX12_beginOne 80 = .ok (.iload_n 1, 1) := by decide +kernel
theorem dX12_beginOne_81 : decode cX12_beginOne 81 = .ok (.invokevirtual 170, 3) := by decide +kernel
theorem dX12_beginOne_84 : decode cX12_beginOne 84 = .ok (.aload_n 0, 1) := by decide +kernel
theorem dX12_beginOne_85 : decode cX12_beginOne 85 = .ok (.invokevirtual 184, 3) := by decide +kernel
theorem dX12_beginOne_88 : decode cX12_beginOne 88 = .ok (.aload_n 0, 1) := by decide +kernel
theorem dX12_beginOne_89 : decode cX12_beginOne 89 = .ok (.invokevirtual 193, 3) := by decide +kernel
theorem dX12_beginOne_92 : decode cX12_beginOne 92 = .ok (.ireturn, 1) := by decide +kernel
theorem dX12_beginOne_93 : decode cX12_beginOne 93 = .ok (.aload_n 0, 1) := by decide +kernel
theorem dX12_beginOne_94 : decode cX12_beginOne 94 = .ok (.getfield 113, 3) := by decide +kernel
theorem dX12_beginOne_97 : decode cX12_beginOne 97 = .ok (.bipush 40, 2) := by decide +kernel
theorem dX12_beginOne_99 : decode cX12_beginOne 99 = .ok (.if_icmp .ne 10, 3) := by decide +kernel
theorem dX12_beginOne_102 : decode cX12_beginOne 102 = .ok (.aload_n 0, 1) := by decide +kernel
theorem dX12_beginOne_103 : decode cX12_beginOne 103 = .ok (.bipush 40, 2) := by decide +kernel
theorem dX12_beginOne_105 : decode cX12_beginOne 105 = .ok (.invokevirtual 196, 3) := by decide +kernel
theorem dX12_beginOne_108 : decode cX12_beginOne 108 = .ok (.ireturn, 1) := by decide +kernel
theorem dX12_beginOne_109 : decode cX12_beginOne 109 = .ok (.aload_n 0, 1) := by decide +kernel
theorem dX12_beginOne_110 : decode cX12_beginOne 110 = .ok (.getfield 113, 3) := by decide +kernel
theorem dX12_beginOne_113 : decode cX12_beginOne 113 = .ok (.bipush 45, 2) := by decide +kernel
theorem dX12_beginOne_115 : decode cX12_beginOne 115 = .ok (.if_icmp .ne 9, 3) := by decide +kernel
theorem dX12_beginOne_118 : decode cX12_beginOne 118 = .ok (.aload_n 0, 1) := by decide +kernel
theorem dX12_beginOne_119 : decode cX12_beginOne 119 = .ok (.iconst 5, 1) := by decide +kernel
theorem dX12_beginOne_120 : decode cX12_beginOne 120 = .ok (.invokevirtual 196, 3) := by decide +kernel
theorem dX12_beginOne_123 : decode cX12_beginOne 123 = .ok (.ireturn, 1) := by decide +kernel
theorem dX12_beginOne_124 : decode cX12_beginOne 124 = .ok (.aload_n 0, 1) := by decide +kernel
theorem dX12_beginOne_125 : decode cX12_beginOne 125 = .ok (.bipush 104, 2) := by decide +kernel
theorem dX12_beginOne_127 : decode cX12_beginOne 127 = .ok (.bipush 111, 2) := by decide +kernel
theorem dX12_beginOne_129 : decode cX12_beginOne 129 = .ok (.bipush 108, 2) := by decide +kernel
theorem dX12_beginOne_131 : decode cX12_beginOne 131 = .ok (.bipush 100, 2) := by decide +kernel
theorem dX12_beginOne_133 : decode cX12_beginOne 133 = .ok (.invokestatic 143, 3) := by decide +kernel
theorem dX12_beginOne_136 : decode cX12_beginOne 136 = .ok (.invokevirtual 199, 3) := by decide +kernel
theorem dX12_beginOne_139 : decode cX12_beginOne 139 = .ok (.ifCond .eq 10, 3) := by decide +kernel
theorem dX12_beginOne_142 : decode cX12_beginOne 142 = .ok (.aload_n 0, 1) := by decide +kernel
theorem dX12_beginOne_143 : decode cX12_beginOne 143 = .ok (.bipush 41, 2) := by decide +kernel
theorem dX12_beginOne_145 : decode cX12_beginOne 145 = .ok (.invokevirtual 196, 3) := by decide +kernel
theorem dX12_beginOne_148 : decode cX12_beginOne 148 = .ok (.ireturn, 1) := by decide +kernel
theorem dX12_beginOne_149 : decode cX12_beginOne 149 = .ok (.aload_n 0, 1) := by decide +kernel
theorem dX12_beginOne_150 : decode cX12_beginOne 150 = .ok (.bipush 109, 2) := by decide +kernel
theorem dX12_beginOne_152 : decode cX12_beginOne 152 = .ok (.bipush 111, 2) := by decide +kernel
theorem dX12_beginOne_154 : decode cX12_beginOne 154 = .ok (.bipush 111, 2) := by decide +kernel
theorem dX12_beginOne_156 : decode cX12_beginOne 156 = .ok (.bipush 100, 2) := by decide +kernel
theorem dX12_beginOne_158 : decode cX12_beginOne 158 = .ok (.bipush 115, 2) := by decide +kernel
theorem dX12_beginOne_160 : decode cX12_beginOne 160 = .ok (.invokestatic 147, 3) := by decide +kernel
theorem dX12_beginOne_163 : decode cX12_beginOne 163 = .ok (.invokevirtual 199, 3) := by decide +kernel
theorem dX12_beginOne_166 : decode cX12_beginOne 166 = .ok (.ifCond .eq 9, 3) := by decide +kernel
theorem dX12_beginOne_169 : decode cX12_beginOne 169 = .ok (.aload_n 0, 1) := by decide +kernel
theorem dX12_beginOne_170 : decode cX12_beginOne 170 = .ok (.iconst 2, 1) := by decide +kernel
theorem dX12_beginOne_171 : decode cX12_beginOne 171 = .ok (.invokevirtual 196, 3) := by decide +kernel
theorem dX12_beginOne_174 : decode cX12_beginOne 174 = .ok (.ireturn, 1) := by decide +kernel
theorem dX12_beginOne_175 : decode cX12_beginOne 175 = .ok (.aload_n 0, 1) := by decide +kernel
theorem dX12_beginOne_176 : decode cX12_beginOne 176 = .ok (.bipush 105, 2) := by decide +kernel
theorem dX12_beginOne_178 : decode cX12_beginOne 178 = .ok (.bipush 102, 2) := by decide +kernel
theorem dX12_beginOne_180 : decode cX12_beginOne 180 = .ok (.invokestatic 135, 3) := by decide +kernel
theorem dX12_beginOne_183 : decode cX12_beginOne 183 = .ok (.invokevirtual 199, 3) := by decide +kernel
theorem dX12_beginOne_186 : decode cX12_beginOne 186 = .ok (.ifCond .eq 10, 3) := by decide +kernel
theorem dX12_beginOne_189 : decode cX12_beginOne 189 = .ok (.aload_n 0, 1) := by decide +kernel
theorem dX12_beginOne_190 : decode cX12_beginOne 190 = .ok (.bipush 43, 2) := by decide +kernel
theorem dX12_beginOne_192 : decode cX12_beginOne 192 = .ok (.invokevirtual 196, 3) := by decide +kernel
theorem dX12_beginOne_195 : decode cX12_beginOne 195 = .ok (.ireturn, 1) := by decide +kernel
theorem dX12_beginOne_196 : decode cX12_beginOne 196 = .ok (.aload_n 0, 1) := by decide +kernel
theorem dX12_beginOne_197 : decode cX12_beginOne 197 = .ok (.bipush 110, 2) := by decide +kernel
theorem dX12_beginOne_199 : decode cX12_beginOne 199 = .ok (.bipush 111, 2) := by decide +kernel
theorem dX12_beginOne_201 : decode cX12_beginOne 201 = .ok (.bipush 116, 2) := by decide +kernel
theorem dX12_beginOne_203 : decode cX12_beginOne 203 = .ok (.invokestatic 139, 3) := by decide +kernel
theorem dX12_beginOne_206 : decode cX12_beginOne 206 = .ok (.invokevirtual 199, 3) := by decide +kernel
theorem dX12_beginOne_209 : decode cX12_beginOne 209 = .ok (.ifCond .eq 19, 3) := by decide +kernel
theorem dX12_beginOne_212 : decode cX12_beginOne 212 = .ok (.aload_n 0, 1) := by decide +kernel
theorem dX12_beginOne_213 : decode cX12_beginOne 213 = .ok (.invokevirtual 203, 3) := by decide +kernel
theorem dX12_beginOne_216 : decode cX12_beginOne 216 = .ok (.ifCond .eq 12, 3) := by decide +kernel
theorem dX12_beginOne_219 : decode cX12_beginOne 219 = .ok (.aload_n 0, 1) := by decide +kernel
theorem dX12_beginOne_220 : decode cX12_beginOne 220 = .ok (.bipush 20, 2) := by decide +kernel
theorem dX12_beginOne_222 : decode cX12_beginOne 222 = .ok (.invokevirtual 196, 3) := by decide +kernel
theorem dX12_beginOne_225 : decode cX12_beginOne 225 = .ok (.goto 4, 3) := by decide +kernel
theorem dX12_beginOne_228 : decode cX12_beginOne 228 = .ok (.iconst 1, 1) := by decide +kernel
theorem dX12_beginOne_229 : decode cX12_beginOne 229 = .ok (.ireturn, 1) := by decide +kernel
set_option maxRecDepth 20000 in
theorem ggX12_endOne_X12_settle : GoodIn wsX12_endOne wsX12_settle := goodIn_r _ [8, 2, 3, 9, 10, 11, 7, 12, 13, 14, 15, 16, 17, 18, 19, 59, 60, 61, 62, 63, 64, 65, 66, 67, 68, 69, 70, 71, 72, 73, 74, 75, 76, 77, 78, 79, 80, 81, 82, 83, 84, 85, 86, 87, 88, 89] rfl (by decide +kernel)
set_option maxRecDepth 20000 in
theorem gX12_endOne_X12_settle : GoodIn wsX12_endOne (wsV RX12 206 RX12 yX12_settle wsX12_settle) := goodIn_app (goodIn_of _ (by decide +kernel)) ggX12_endOne_X12_settle
set_option maxRecDepth 20000 in
theorem ggX12_endOne_X12_w4 : GoodIn wsX12_endOne wsX12_w4 := goodIn_r _ [22, 23, 24, 7, 25, 26, 27, 28] rfl (by decide +kernel)
set_option maxRecDepth 20000 in
theorem gX12_endOne_X12_w4 : GoodIn wsX12_endOne (va_wsS RX12 143 yX12_w4 wsX12_w4) := goodIn_app (goodIn_of _ (by decide +kernel)) ggX12_endOne_X12_w4
set_option maxRecDepth 20000 in
theorem ggX12_endOne_X12_w2 : GoodIn wsX12_endOne wsX12_w2 := goodIn_r _ [28] rfl (by decide +kernel)
set_option maxRecDepth 20000 in
theorem gX12_endOne_X12_w2 : GoodIn wsX12_endOne (va_wsS RX12 135 yX12_w2 wsX12_w2) := goodIn_app (goodIn_of _ (by decide +kernel)) ggX12_endOne_X12_w2
set_option maxRecDepth 20000 in
theorem ggX12_endOne_X12_isWord : GoodIn wsX12_endOne wsX12_isWord := goodIn_r _ [32, 33, 34, 59, 60, 61, 62, 63, 64, 65, 66, 67, 68, 69, 70, 71, 72, 73, 74, 75, 76, 77, 78, 79, 80, 81, 82, 83, 84, 85, 86, 87, 88, 89] rfl (by decide +kernel)
set_option maxRecDepth 20000 in
theorem gX12_endOne_X12_isWord : GoodIn wsX12_endOne (wsV RX12 199 RX12 yX12_isWord wsX12_isWord) := goodIn_app (goodIn_of _ (by decide +kernel)) ggX12_endOne_X12_isWord
set_option maxRecDepth 20000 in
theorem ggX12_endOne_X12_nextToken : GoodIn wsX12_endOne wsX12_nextToken := goodIn_r _ [38, 39, 40, 33, 41, 42, 34, 43, 44, 45, 46, 7, 47, 48, 49, 50, 51, 52, 53, 54, 55, 56, 57, 58, 59, 60, 61, 62, 63, 64, 65, 66, 67, 68, 69, 70, 71, 72, 73, 74, 75, 76, 77, 78, 79, 80, 81, 82, 83, 84, 85, 86, 87, 88, 89] rfl (by decide +kernel)
set_option maxRecDepth 20000 in
theorem gX12_endOne_X12_nextToken : GoodIn wsX12_endOne (wsV RX12 184 RX12 yX12_nextToken wsX12_nextToken) := goodIn_app (goodIn_of _ (by decide +kernel)) ggX12_endOne_X12_nextToken
theorem dX12_endOne_0 : decode cX12_endOne 0 = .ok (.aload_n 0, 1) := by decide +kernel
theorem dX12_endOne_1 : decode cX12_endOne 1 = .ok (.bipush 7, 2) := by decide +kernel
theorem dX12_endOne_3 : decode cX12_endOne 3 = .ok (.invokevirtual 206, 3) := by decide +kernel
theorem dX12_endOne_6 : decode cX12_endOne 6 = .ok (.aload_n 0, 1) := by decide +kernel
theorem dX12_endOne_7 : decode cX12_endOne 7 = .ok (.iconst 1, 1) := by decide +kernel
theorem dX12_endOne_8 : decode cX12_endOne 8 = .ok (.putfield 209, 3) := by decide +kernel
theorem dX12_endOne_11 : decode cX12_endOne 11 = .ok (.aload_n 0, 1) := by decide +kernel
theorem dX12_endOne_12 : decode cX12_endOne 12 = .ok (.getfield 164, 3) := by decide +kernel
theorem dX12_endOne_15 : decode cX12_endOne 15 = .ok (.ifCond .ne 7, 3) := by decide +kernel
theorem dX12_endOne_18 : decode cX12_endOne 18 = .ok (.iconst (-1), 1) := by decide +kernel
theorem dX12_endOne_19 : decode cX12_endOne 19 = .ok (.goto 14, 3) := by decide +kernel
theorem dX12_endOne_22 : decode cX12_endOne 22 = .ok (.aload_n 0, 1) := by decide +kernel
theorem dX12_endOne_23 : decode cX12_endOne 23 = .ok (.getfield 29, 3) := by decide +kernel
theorem dX12_endOne_26 : decode cX12_endOne 26 = .ok (.aload_n 0, 1) := by decide +kernel
theorem dX12_endOne_27 : decode cX12_endOne 27 = .ok (.getfield 164, 3) := by decide +kernel
theorem dX12_endOne_30 : decode cX12_endOne 30 = .ok (.iconst 1, 1) := by decide +kernel
theorem dX12_endOne_31 : decode cX12_endOne 31 = .ok (.isub, 1) := by decide +kernel
theorem dX12_endOne_32 : decode cX12_endOne 32 = .ok (.iaload, 1) := by decide +kernel
theorem dX12_endOne_33 : decode cX12_endOne 33 = .ok (.istore_n 1, 1) := by decide +kernel
theorem dX12_endOne_34 : decode cX12_endOne 34 = .ok (.iload_n 1, 1) := by decide +kernel
theorem dX12_endOne_35 : decode cX12_endOne 35 = .ok (.bipush 41, 2) := by decide +kernel
theorem dX12_endOne_37 : decode cX12_endOne 37 = .ok (.if_icmp .eq 11, 3) := by decide +kernel
theorem dX12_endOne_40 : decode cX12_endOne 40 = .ok (.iload_n 1, 1) := by decide +kernel
theorem dX12_endOne_41 : decode cX12_endOne 41 = .ok (.bipush 42, 2) := by decide +kernel
theorem dX12_endOne_43 : decode cX12_endOne 43 = .ok (.if_icmp .eq 5, 3) := by decide +kernel
theorem dX12_endOne_46 : decode cX12_endOne 46 = .ok (.iconst 0, 1) := by decide +kernel
theorem dX12_endOne_47 : decode cX12_endOne 47 = .ok (.ireturn, 1) := by decide +kernel
theorem dX12_endOne_48 : decode cX12_endOne 48 = .ok (.aload_n 0, 1) := by decide +kernel
theorem dX12_endOne_49 : decode cX12_endOne 49 = .ok (.iload_n 1, 1) := by decide +kernel
theorem dX12_endOne_50 : decode cX12_endOne 50 = .ok (.bipush 41, 2) := by decide +kernel
theorem dX12_endOne_52 : decode cX12_endOne 52 = .ok (.if_icmp .ne 17, 3) := by decide +kernel
theorem dX12_endOne_55 : decode cX12_endOne 55 = .ok (.bipush 102, 2) := by decide +kernel
theorem dX12_endOne_57 : decode cX12_endOne 57 = .ok (.bipush 114, 2) := by decide +kernel
theorem dX12_endOne_59 : decode cX12_endOne 59 = .ok (.bipush 111, 2) := by decide +kernel
theorem dX12_endOne_61 : decode cX12_endOne 61 = .ok (.bipush 109, 2) := by decide +kernel
theorem dX12_endOne_63 : decode cX12_endOne 63 = .ok (.invokestatic 143, 3) := by decide +kernel
theorem dX12_endOne_66 : decode cX12_endOne 66 = .ok (.goto 10, 3) := by decide +kernel
theorem dX12_endOne_69 : decode cX12_endOne 69 = .ok (.bipush 116, 2) := by decide +kernel
theorem dX12_endOne_71 : decode cX12_endOne 71 = .ok (.bipush 111, 2) := by decide +kernel
theorem dX12_endOne_73 : decode cX12_endOne 73 = .ok (.invokestatic 135, 3) := by decide +kernel
theorem dX12_endOne_76 : decode cX12_endOne 76 = .ok (.invokevirtual 199, 3) := by decide +kernel
theorem dX12_endOne_79 : decode cX12_endOne 79 = .ok (.ifCond .ne 5, 3) := by decide +kernel
theorem dX12_endOne_82 : decode cX12_endOne 82 = .ok (.iconst 1, 1) := by decide +kernel
theorem dX12_endOne_83 : decode cX12_endOne 83 = .ok (.ireturn, 1) := by decide +kernel
theorem dX12_endOne_84 : decode cX12_endOne 84 = .ok (.aload_n 0, 1) := by decide +kernel
theorem dX12_endOne_85 : decode cX12_endOne 85 = .ok (.invokevirtual 184, 3) := by decide +kernel
theorem dX12_endOne_88 : decode cX12_endOne 88 = .ok (.aload_n 0, 1) := by decide +kernel
theorem dX12_endOne_89 : decode cX12_endOne 89 = .ok (.getfield 29, 3) := by decide +kernel
theorem dX12_endOne_92 : decode cX12_endOne 92 = .ok (.aload_n 0, 1) := by decide +kernel
theorem dX12_endOne_93 : decode cX12_endOne 93 = .ok (.getfield 164, 3) := by decide +kernel
theorem dX12_endOne_96 : decode cX12_endOne 96 = .ok (.iconst 1, 1) := by decide +kernel
theorem dX12_endOne_97 : decode cX12_endOne 97 = .ok (.isub, 1) := by decide +kernel
theorem dX12_endOne_98 : decode cX12_endOne 98 = .ok (.iload_n 1, 1) := by decide +kernel
theorem dX12_endOne_99 : decode cX12_endOne 99 = .ok (.bipush 41, 2) := by decide +kernel
theorem dX12_endOne_101 : decode cX12_endOne 101 = .ok (.if_icmp .ne 8, 3) := by decide +kernel
theorem dX12_endOne_104 : decode cX12_endOne 104 = .ok (.bipush 42, 2) := by decide +kernel
theorem dX12_endOne_106 : decode cX12_endOne 106 = .ok (.goto 4, 3) := by decide +kernel
theorem dX12_endOne_109 : decode cX12_endOne 109 = .ok (.iconst 4, 1) := by decide +kernel
theorem dX12_endOne_110 : decode cX12_endOne 110 = .ok (.iastore, 1) := by decide +kernel
theorem dX12_endOne_111 : decode cX12_endOne 111 = .ok (.aload_n 0, 1) := by decide +kernel
theorem dX12_endOne_112 : decode cX12_endOne 112 = .ok (.iconst 0, 1) := by decide +kernel
theorem dX12_endOne_113 : decode cX12_endOne 113 = .ok (.putfield 209, 3) := by decide +kernel
theorem dX12_endOne_116 : decode cX12_endOne 116 = .ok (.iconst 0, 1) := by decide +kernel
theorem dX12_endOne_117 : decode cX12_endOne 117 = .ok (.ireturn, 1) := by decide +kernel
theorem dX12_compareOf_0 : decode cX12_compareOf 0 = .ok (.aload_n 0, 1) := by decide +kernel
theorem dX12_compareOf_1 : decode cX12_compareOf 1 = .ok (.getfield 113, 3) := by decide +kernel
theorem dX12_compareOf_4 : decode cX12_compareOf 4 = .ok (.bipush 60, 2) := by decide +kernel
theorem dX12_compareOf_6 : decode cX12_compareOf 6 = .ok (.if_icmp .ne 8, 3) := by decide +kernel
theorem dX12_compareOf_9 : decode cX12_compareOf 9 = .ok (.bipush 10, 2) := by decide +kernel
theorem dX12_compareOf_11 : decode cX12_compareOf 11 = .ok (.goto 72, 3) := by decide +kernel
theorem dX12_compareOf_14 : decode cX12_compareOf 14 = .ok (.aload_n 0, 1) := by decide +kernel
theorem dX12_compareOf_15 : decode cX12_compareOf 15 = .ok (.getfield 113, 3) := by decide +kernel
theorem dX12_compareOf_18 : decode cX12_compareOf 18 = .ok (.iconst 4, 1) := by decide +kernel
theorem dX12_compareOf_19 : decode cX12_compareOf 19 = .ok (.if_icmp .ne 8, 3) := by decide +kernel
theorem dX12_compareOf_22 : decode cX12_compareOf 22 = .ok (.bipush 11, 2) := by decide +kernel
theorem dX12_compareOf_24 : decode cX12_compareOf 24 = .ok (.goto 59, 3) := by decide +kernel
theorem dX12_compareOf_27 : decode cX12_compareOf 27 = .ok (.aload_n 0, 1) := by decide +kernel
theorem dX12_compareOf_28 : decode cX12_compareOf 28 = .ok (.getfield 113, 3) := by decide +kernel
theorem dX12_compareOf_31 : decode cX12_compareOf 31 = .ok (.bipush 62, 2) := by decide +kernel
theorem dX12_compareOf_33 : decode cX12_compareOf 33 = .ok (.if_icmp .ne 8, 3) := by decide +kernel
theorem dX12_compareOf_36 : decode cX12_compareOf 36 = .ok (.bipush 12, 2) := by decide +kernel
theorem dX12_compareOf_38 : decode cX12_compareOf 38 = .ok (.goto 45, 3) := by decide +kernel
theorem dX12_compareOf_41 : decode cX12_compareOf 41 = .ok (.aload_n 0, 1) := by decide +kernel
theorem dX12_compareOf_42 : decode cX12_compareOf 42 = .ok (.getfield 113, 3) := by decide +kernel
theorem dX12_compareOf_45 : decode cX12_compareOf 45 = .ok (.iconst 5, 1) := by decide +kernel
theorem dX12_compareOf_46 : decode cX12_compareOf 46 = .ok (.if_icmp .ne 8, 3) := by decide +kernel
theorem dX12_compareOf_49 : decode cX12_compareOf 49 = .ok (.bipush 13, 2) := by decide +kernel
theorem dX12_compareOf_51 : decode cX12_compareOf 51 = .ok (.goto 32, 3) := by decide +kernel
theorem dX12_compareOf_54 : decode cX12_compareOf 54 = .ok (.aload_n 0, 1) := by decide +kernel
theorem dX12_compareOf_55 : decode cX12_compareOf 55 = .ok (.getfield 113, 3) := by decide +kernel
theorem dX12_compareOf_58 : decode cX12_compareOf 58 = .ok (.bipush 61, 2) := by decide +kernel
theorem dX12_compareOf_60 : decode cX12_compareOf 60 = .ok (.if_icmp .ne 8, 3) := by decide +kernel
theorem dX12_compareOf_63 : decode cX12_compareOf 63 = .ok (.bipush 14, 2) := by decide +kernel
theorem dX12_compareOf_65 : decode cX12_compareOf 65 = .ok (.goto 18, 3) := by decide +kernel
theorem dX12_compareOf_68 : decode cX12_compareOf 68 = .ok (.aload_n 0, 1) := by decide +kernel
theorem dX12_compareOf_69 : decode cX12_compareOf 69 = .ok (.getfield 113, 3) := by decide +kernel
theorem dX12_compareOf_72 : decode cX12_compareOf 72 = .ok (.bipush 35, 2) := by decide +kernel
theorem dX12_compareOf_74 : decode cX12_compareOf 74 = .ok (.if_icmp .ne 8, 3) := by decide +kernel
theorem dX12_compareOf_77 : decode cX12_compareOf 77 = .ok (.bipush 15, 2) := by decide +kernel
theorem dX12_compareOf_79 : decode cX12_compareOf 79 = .ok (.goto 4, 3) := by decide +kernel
theorem dX12_compareOf_82 : decode cX12_compareOf 82 = .ok (.iconst (-1), 1) := by decide +kernel
theorem dX12_compareOf_83 : decode cX12_compareOf 83 = .ok (.ireturn, 1) := by decide +kernel
set_option maxRecDepth 20000 in
theorem ggX12_betweenOf_X12_openNow : GoodIn wsX12_betweenOf wsX12_openNow := goodIn_r _ [6, 7, 8, 9, 10, 5, 11, 12, 35, 36, 37, 38, 39, 40, 41, 42, 43, 44, 45, 46, 47, 48, 49, 50, 51, 52, 53, 54, 55, 56, 57, 58, 59, 60, 61, 62, 63, 64, 65] rfl (by decide +kernel)
set_option maxRecDepth 20000 in
theorem gX12_betweenOf_X12_openNow : GoodIn wsX12_betweenOf (wsV RX12 181 RX12 yX12_openNow wsX12_openNow) := goodIn_app (goodIn_of _ (by decide +kernel)) ggX12_betweenOf_X12_openNow
set_option maxRecDepth 20000 in
theorem ggX12_betweenOf_X12_isCompared : GoodIn wsX12_betweenOf wsX12_isCompared := goodIn_r _ [16, 12, 7, 17, 18, 5, 19, 35, 36, 37, 38, 39, 40, 41, 42, 43, 44, 45, 46, 47, 48, 49, 50, 51, 52, 53, 54, 55, 56, 57, 58, 59, 60, 61, 62, 63, 64, 65] rfl (by decide +kernel)
set_option maxRecDepth 20000 in
theorem gX12_betweenOf_X12_isCompared : GoodIn wsX12_betweenOf (wsV RX12 213 RX12 yX12_isCompared wsX12_isCompared) := goodIn_app (goodIn_of _ (by decide +kernel)) ggX12_betweenOf_X12_isCompared
set_option maxRecDepth 20000 in
theorem ggX12_betweenOf_X12_compareOf : GoodIn wsX12_betweenOf wsX12_compareOf := goodIn_r _ [23, 1, 35, 36, 37, 38, 39, 40, 41, 42, 43, 44, 45, 46, 47, 48, 49, 50, 51, 52, 53, 54, 55, 56, 57, 58, 59, 60, 61, 62, 63, 64, 65] rfl (by decide +kernel)
set_option maxRecDepth 20000 in
theorem gX12_betweenOf_X12_compareOf : GoodIn wsX12_betweenOf (wsV RX12 216 RX12 yX12_compareOf wsX12_compareOf) := goodIn_app (goodIn_of _ (by decide +kernel)) ggX12_betweenOf_X12_compareOf
set_option maxRecDepth 20000 in
theorem ggX12_betweenOf_X12_w3 : GoodIn wsX12_betweenOf wsX12_w3 := goodIn_r _ [26, 27, 28, 5, 29] rfl (by decide +kernel)
set_option maxRecDepth 20000 in
theorem gX12_betweenOf_X12_w3 : GoodIn wsX12_betweenOf (va_wsS RX12 139 yX12_w3 wsX12_w3) := goodIn_app (goodIn_of _ (by decide +kernel)) ggX12_betweenOf_X12_w3
set_option maxRecDepth 20000 in
theorem ggX12_betweenOf_X12_isWord : GoodIn wsX12_betweenOf wsX12_isWord := goodIn_r _ [33, 1, 34, 35, 36, 37, 38, 39, 40, 41, 42, 43, 44, 45, 46, 47, 48, 49, 50, 51, 52, 53, 54, 55, 56, 57, 58, 59, 60, 61, 62, 63, 64, 65] rfl (by decide +kernel)
set_option maxRecDepth 20000 in
theorem gX12_betweenOf_X12_isWord : GoodIn wsX12_betweenOf (wsV RX12 199 RX12 yX12_isWord wsX12_isWord) := goodIn_app (goodIn_of _ (by decide +kernel)) ggX12_betweenOf_X12_isWord
set_option maxRecDepth 20000 in
theorem ggX12_betweenOf_X12_w2 : GoodIn wsX12_betweenOf wsX12_w2 := goodIn_r _ [29] rfl (by decide +kernel)
set_option maxRecDepth 20000 in
theorem gX12_betweenOf_X12_w2 : GoodIn wsX12_betweenOf (va_wsS RX12 135 yX12_w2 wsX12_w2) := goodIn_app (goodIn_of _ (by decide +kernel)) ggX12_betweenOf_X12_w2
theorem dX12_betweenOf_0 : decode cX12_betweenOf 0 = .ok (.aload_n 0, 1) := by decide +kernel
theorem dX12_betweenOf_1 : decode cX12_betweenOf 1 = .ok (.getfield 113, 3) := by decide +kernel
theorem dX12_betweenOf_4 : decode cX12_betweenOf 4 = .ok (.bipush 43, 2) := by decide +kernel
theorem dX12_betweenOf_6 : decode cX12_betweenOf 6 = .ok (.if_icmp .ne 6, 3) := by decide +kernel
theorem dX12_betweenOf_9 : decode cX12_betweenOf 9 = .ok (.bipush 6, 2) := by decide +kernel
theorem dX12_betweenOf_11 : decode cX12_betweenOf 11 = .ok (.ireturn, 1) := by decide +kernel
theorem dX12_betweenOf_12 : decode cX12_betweenOf 12 = .ok (.aload_n 0, 1) := by decide +kernel
theorem dX12_betweenOf_13 : decode cX12_betweenOf 13 = .ok (.getfield 113, 3) := by decide +kernel
theorem dX12_betweenOf_16 : decode cX12_betweenOf 16 = .ok (.bipush 45, 2) := by decide +kernel
theorem dX12_betweenOf_18 : decode cX12_betweenOf 18 = .ok (.if_icmp .ne 6, 3) := by decide +kernel
theorem dX12_betweenOf_21 : decode cX12_betweenOf 21 = .ok (.bipush 7, 2) := by decide +kernel
theorem dX12_betweenOf_23 : decode cX12_betweenOf 23 = .ok (.ireturn, 1) := by decide +kernel
theorem dX12_betweenOf_24 : decode cX12_betweenOf 24 = .ok (.aload_n 0, 1) := by decide +kernel
theorem dX12_betweenOf_25 : decode cX12_betweenOf 25 = .ok (.getfield 113, 3) := by decide +kernel
theorem dX12_betweenOf_28 : decode cX12_betweenOf 28 = .ok (.bipush 42, 2) := by decide +kernel
theorem dX12_betweenOf_30 : decode cX12_betweenOf 30 = .ok (.if_icmp .ne 6, 3) := by decide +kernel
theorem dX12_betweenOf_33 : decode cX12_betweenOf 33 = .ok (.bipush 8, 2) := by decide +kernel
theorem dX12_betweenOf_35 : decode cX12_betweenOf 35 = .ok (.ireturn, 1) := by decide +kernel
theorem dX12_betweenOf_36 : decode cX12_betweenOf 36 = .ok (.aload_n 0, 1) := by decide +kernel
theorem dX12_betweenOf_37 : decode cX12_betweenOf 37 = .ok (.getfield 113, 3) := by decide +kernel
theorem dX12_betweenOf_40 : decode cX12_betweenOf 40 = .ok (.bipush 47, 2) := by decide +kernel
theorem dX12_betweenOf_42 : decode cX12_betweenOf 42 = .ok (.if_icmp .ne 6, 3) := by decide +kernel
theorem dX12_betweenOf_45 : decode cX12_betweenOf 45 = .ok (.bipush 9, 2) := by decide +kernel
theorem dX12_betweenOf_47 : decode cX12_betweenOf 47 = .ok (.ireturn, 1) := by decide +kernel
theorem dX12_betweenOf_48 : decode cX12_betweenOf 48 = .ok (.aload_n 0, 1) := by decide +kernel
theorem dX12_betweenOf_49 : decode cX12_betweenOf 49 = .ok (.invokevirtual 181, 3) := by decide +kernel
theorem dX12_betweenOf_52 : decode cX12_betweenOf 52 = .ok (.bipush 43, 2) := by decide +kernel
theorem dX12_betweenOf_54 : decode cX12_betweenOf 54 = .ok (.if_icmp .eq 5, 3) := by decide +kernel
theorem dX12_betweenOf_57 : decode cX12_betweenOf 57 = .ok (.iconst (-1), 1) := by decide +kernel
theorem dX12_betweenOf_58 : decode cX12_betweenOf 58 = .ok (.ireturn, 1) := by decide +kernel
theorem dX12_betweenOf_59 : decode cX12_betweenOf 59 = .ok (.aload_n 0, 1) := by decide +kernel
theorem dX12_betweenOf_60 : decode cX12_betweenOf 60 = .ok (.invokevirtual 213, 3) := by decide +kernel
theorem dX12_betweenOf_63 : decode cX12_betweenOf 63 = .ok (.ifCond .ne 8, 3) := by decide +kernel
theorem dX12_betweenOf_66 : decode cX12_betweenOf 66 = .ok (.aload_n 0, 1) := by decide +kernel
theorem dX12_betweenOf_67 : decode cX12_betweenOf 67 = .ok (.invokevirtual 216, 3) := by decide +kernel
theorem dX12_betweenOf_70 : decode cX12_betweenOf 70 = .ok (.ireturn, 1) := by decide +kernel
theorem dX12_betweenOf_71 : decode cX12_betweenOf 71 = .ok (.aload_n 0, 1) := by decide +kernel
theorem dX12_betweenOf_72 : decode cX12_betweenOf 72 = .ok (.bipush 97, 2) := by decide +kernel
theorem dX12_betweenOf_74 : decode cX12_betweenOf 74 = .ok (.bipush 110, 2) := by decide +kernel
theorem dX12_betweenOf_76 : decode cX12_betweenOf 76 = .ok (.bipush 100, 2) := by decide +kernel
theorem dX12_betweenOf_78 : decode cX12_betweenOf 78 = .ok (.invokestatic 139, 3) := by decide +kernel
theorem dX12_betweenOf_81 : decode cX12_betweenOf 81 = .ok (.invokevirtual 199, 3) := by decide +kernel
theorem dX12_betweenOf_84 : decode cX12_betweenOf 84 = .ok (.ifCond .eq 8, 3) := by decide +kernel
theorem dX12_betweenOf_87 : decode cX12_betweenOf 87 = .ok (.bipush 21, 2) := by decide +kernel
theorem dX12_betweenOf_89 : decode cX12_betweenOf 89 = .ok (.goto 23, 3) := by decide +kernel
theorem dX12_betweenOf_92 : decode cX12_betweenOf 92 = .ok (.aload_n 0, 1) := by decide +kernel
theorem dX12_betweenOf_93 : decode cX12_betweenOf 93 = .ok (.bipush 111, 2) := by decide +kernel
theorem dX12_betweenOf_95 : decode cX12_betweenOf 95 = .ok (.bipush 114, 2) := by decide +kernel
theorem dX12_betweenOf_97 : decode cX12_betweenOf 97 = .ok (.invokestatic 135, 3) := by decide +kernel
theorem dX12_betweenOf_100 : decode cX12_betweenOf 100 = .ok (.invokevirtual 199, 3) := by decide +kernel
theorem dX12_betweenOf_103 : decode cX12_betweenOf 103 = .ok (.ifCond .eq 8, 3) := by decide +kernel
theorem dX12_betweenOf_106 : decode cX12_betweenOf 106 = .ok (.bipush 22, 2) := by decide +kernel
theorem dX12_betweenOf_108 : decode cX12_betweenOf 108 = .ok (.goto 4, 3) := by decide +kernel
theorem dX12_betweenOf_111 : decode cX12_betweenOf 111 = .ok (.iconst (-1), 1) := by decide +kernel
theorem dX12_betweenOf_112 : decode cX12_betweenOf 112 = .ok (.ireturn, 1) := by decide +kernel
set_option maxRecDepth 20000 in
theorem ggX12_partOf_X12_w4 : GoodIn wsX12_partOf wsX12_w4 := goodIn_r _ [5, 6, 7, 4, 8, 9, 10, 11] rfl (by decide +kernel)
set_option maxRecDepth 20000 in
theorem gX12_partOf_X12_w4 : GoodIn wsX12_partOf (va_wsS RX12 143 yX12_w4 wsX12_w4) := goodIn_app (goodIn_of _ (by decide +kernel)) ggX12_partOf_X12_w4
set_option maxRecDepth 20000 in
theorem ggX12_partOf_X12_isWord : GoodIn wsX12_partOf wsX12_isWord := goodIn_r _ [15, 1, 16, 26, 27, 28, 29, 30, 31, 32, 33, 34, 35, 36, 37, 38, 39, 40, 41, 42, 43, 44, 45, 46, 47, 48, 49, 50, 51, 52, 53, 54, 55, 56] rfl (by decide +kernel)
set_option maxRecDepth 20000 in
theorem gX12_partOf_X12_isWord : GoodIn wsX12_partOf (wsV RX12 199 RX12 yX12_isWord wsX12_isWord) := goodIn_app (goodIn_of _ (by decide +kernel)) ggX12_partOf_X12_isWord
set_option maxRecDepth 20000 in
theorem ggX12_partOf_X12_isCompared : GoodIn wsX12_partOf wsX12_isCompared := goodIn_r _ [20, 21, 22, 23, 24, 4, 25, 26, 27, 28, 29, 30, 31, 32, 33, 34, 35, 36, 37, 38, 39, 40, 41, 42, 43, 44, 45, 46, 47, 48, 49, 50, 51, 52, 53, 54, 55, 56] rfl (by decide +kernel)
set_option maxRecDepth 20000 in
theorem gX12_partOf_X12_isCompared : GoodIn wsX12_partOf (wsV RX12 213 RX12 yX12_isCompared wsX12_isCompared) := goodIn_app (goodIn_of _ (by decide +kernel)) ggX12_partOf_X12_isCompared
set_option maxRecDepth 20000 in
theorem ggX12_partOf_X12_w3 : GoodIn wsX12_partOf wsX12_w3 := goodIn_r _ [8, 9, 10, 4, 11] rfl (by decide +kernel)
set_option maxRecDepth 20000 in
theorem gX12_partOf_X12_w3 : GoodIn wsX12_partOf (va_wsS RX12 139 yX12_w3 wsX12_w3) := goodIn_app (goodIn_of _ (by decide +kernel)) ggX12_partOf_X12_w3
theorem dX12_partOf_0 : decode cX12_partOf 0 = .ok (.iload_n 1, 1) := by decide +kernel
theorem dX12_partOf_1 : decode cX12_partOf 1 = .ok (.tableswitch 133 40 45 #[39, 133, 133, 54, 86, 111], 39) := by decide +kernel
theorem dX12_partOf_40 : decode cX12_partOf 40 = .ok (.aload_n 0, 1) := by decide +kernel
theorem dX12_partOf_41 : decode cX12_partOf 41 = .ok (.getfield 113, 3) := by decide +kernel
theorem dX12_partOf_44 : decode cX12_partOf 44 = .ok (.bipush 41, 2) := by decide +kernel
theorem dX12_partOf_46 : decode cX12_partOf 46 = .ok (.if_icmp .ne 7, 3) := by decide +kernel
theorem dX12_partOf_49 : decode cX12_partOf 49 = .ok (.iconst 0, 1) := by decide +kernel
theorem dX12_partOf_50 : decode cX12_partOf 50 = .ok (.goto 4, 3) := by decide +kernel
theorem dX12_partOf_53 : decode cX12_partOf 53 = .ok (.iconst (-1), 1) := by decide +kernel
theorem dX12_partOf_54 : decode cX12_partOf 54 = .ok (.ireturn, 1) := by decide +kernel
theorem dX12_partOf_55 : decode cX12_partOf 55 = .ok (.aload_n 0, 1) := by decide +kernel
theorem dX12_partOf_56 : decode cX12_partOf 56 = .ok (.bipush 116, 2) := by decide +kernel
theorem dX12_partOf_58 : decode cX12_partOf 58 = .ok (.bipush 104, 2) := by decide +kernel
theorem dX12_partOf_60 : decode cX12_partOf 60 = .ok (.bipush 101, 2) := by decide +kernel
theorem dX12_partOf_62 : decode cX12_partOf 62 = .ok (.bipush 110, 2) := by decide +kernel
theorem dX12_partOf_64 : decode cX12_partOf 64 = .ok (.invokestatic 143, 3) := by decide +kernel
theorem dX12_partOf_67 : decode cX12_partOf 67 = .ok (.invokevirtual 199, 3) := by decide +kernel
theorem dX12_partOf_70 : decode cX12_partOf 70 = .ok (.ifCond .eq 15, 3) := by decide +kernel
theorem dX12_partOf_73 : decode cX12_partOf 73 = .ok (.aload_n 0, 1) := by decide +kernel
theorem dX12_partOf_74 : decode cX12_partOf 74 = .ok (.invokevirtual 213, 3) := by decide +kernel
theorem dX12_partOf_77 : decode cX12_partOf 77 = .ok (.ifCond .eq 8, 3) := by decide +kernel
theorem dX12_partOf_80 : decode cX12_partOf 80 = .ok (.bipush 44, 2) := by decide +kernel
theorem dX12_partOf_82 : decode cX12_partOf 82 = .ok (.goto 4, 3) := by decide +kernel
theorem dX12_partOf_85 : decode cX12_partOf 85 = .ok (.iconst (-1), 1) := by decide +kernel
theorem dX12_partOf_86 : decode cX12_partOf 86 = .ok (.ireturn, 1) := by decide +kernel
theorem dX12_partOf_87 : decode cX12_partOf 87 = .ok (.aload_n 0, 1) := by decide +kernel
theorem dX12_partOf_88 : decode cX12_partOf 88 = .ok (.bipush 101, 2) := by decide +kernel
theorem dX12_partOf_90 : decode cX12_partOf 90 = .ok (.bipush 108, 2) := by decide +kernel
theorem dX12_partOf_92 : decode cX12_partOf 92 = .ok (.bipush 115, 2) := by decide +kernel
theorem dX12_partOf_94 : decode cX12_partOf 94 = .ok (.bipush 101, 2) := by decide +kernel
theorem dX12_partOf_96 : decode cX12_partOf 96 = .ok (.invokestatic 143, 3) := by decide +kernel
theorem dX12_partOf_99 : decode cX12_partOf 99 = .ok (.invokevirtual 199, 3) := by decide +kernel
theorem dX12_partOf_102 : decode cX12_partOf 102 = .ok (.ifCond .eq 8, 3) := by decide +kernel
theorem dX12_partOf_105 : decode cX12_partOf 105 = .ok (.bipush 45, 2) := by decide +kernel
theorem dX12_partOf_107 : decode cX12_partOf 107 = .ok (.goto 4, 3) := by decide +kernel
theorem dX12_partOf_110 : decode cX12_partOf 110 = .ok (.iconst (-1), 1) := by decide +kernel
theorem dX12_partOf_111 : decode cX12_partOf 111 = .ok (.ireturn, 1) := by decide +kernel
theorem dX12_partOf_112 : decode cX12_partOf 112 = .ok (.aload_n 0, 1) := by decide +kernel
theorem dX12_partOf_113 : decode cX12_partOf 113 = .ok (.bipush 101, 2) := by decide +kernel
theorem dX12_partOf_115 : decode cX12_partOf 115 = .ok (.bipush 110, 2) := by decide +kernel
theorem dX12_partOf_117 : decode cX12_partOf 117 = .ok (.bipush 100, 2) := by decide +kernel
theorem dX12_partOf_119 : decode cX12_partOf 119 = .ok (.invokestatic 139, 3) := by decide +kernel
theorem dX12_partOf_122 : decode cX12_partOf 122 = .ok (.invokevirtual 199, 3) := by decide +kernel
theorem dX12_partOf_125 : decode cX12_partOf 125 = .ok (.ifCond .eq 7, 3) := by decide +kernel
theorem dX12_partOf_128 : decode cX12_partOf 128 = .ok (.iconst 0, 1) := by decide +kernel
theorem dX12_partOf_129 : decode cX12_partOf 129 = .ok (.goto 4, 3) := by decide +kernel
theorem dX12_partOf_132 : decode cX12_partOf 132 = .ok (.iconst (-1), 1) := by decide +kernel
theorem dX12_partOf_133 : decode cX12_partOf 133 = .ok (.ireturn, 1) := by decide +kernel
theorem dX12_partOf_134 : decode cX12_partOf 134 = .ok (.iconst (-1), 1) := by decide +kernel
theorem dX12_partOf_135 : decode cX12_partOf 135 = .ok (.ireturn, 1) := by decide +kernel
set_option maxRecDepth 20000 in
theorem ggX12_behindOne_X12_betweenOf : GoodIn wsX12_behindOne wsX12_betweenOf := goodIn_r _ [9, 10, 11, 12, 13, 8, 14, 1, 15, 16, 17, 18, 2, 19, 20, 21, 22, 23, 24, 25, 26, 27, 28, 29, 30, 31, 32, 33, 34, 35, 36, 37, 38, 39, 40, 87, 88, 89, 90, 91, 92, 93, 94, 95, 96, 97, 98, 99, 100, 101, 102, 103, 104, 105, 106, 107, 108, 109, 110, 111, 112, 113, 114, 115, 116, 117] rfl (by decide +kernel)
set_option maxRecDepth 20000 in
theorem gX12_behindOne_X12_betweenOf : GoodIn wsX12_behindOne (wsV RX12 219 RX12 yX12_betweenOf wsX12_betweenOf) := goodIn_app (goodIn_of _ (by decide +kernel)) ggX12_behindOne_X12_betweenOf
set_option maxRecDepth 20000 in
theorem ggX12_behindOne_X12_rank : GoodIn wsX12_behindOne wsX12_rank := goodIn_r _ [25] rfl (by decide +kernel)
set_option maxRecDepth 20000 in
theorem gX12_behindOne_X12_rank : GoodIn wsX12_behindOne (va_wsS RX12 167 yX12_rank wsX12_rank) := goodIn_app (goodIn_of _ (by decide +kernel)) ggX12_behindOne_X12_rank
set_option maxRecDepth 20000 in
theorem ggX12_behindOne_X12_settle : GoodIn wsX12_behindOne wsX12_settle := goodIn_r _ [44, 2, 1, 4, 23, 24, 8, 25, 45, 46, 47, 48, 49, 50, 51, 87, 88, 89, 90, 91, 92, 93, 94, 95, 96, 97, 98, 99, 100, 101, 102, 103, 104, 105, 106, 107, 108, 109, 110, 111, 112, 113, 114, 115, 116, 117] rfl (by decide +kernel)
set_option maxRecDepth 20000 in
theorem gX12_behindOne_X12_settle : GoodIn wsX12_behindOne (wsV RX12 206 RX12 yX12_settle wsX12_settle) := goodIn_app (goodIn_of _ (by decide +kernel)) ggX12_behindOne_X12_settle
set_option maxRecDepth 20000 in
theorem ggX12_behindOne_X12_nextToken : GoodIn wsX12_behindOne wsX12_nextToken := goodIn_r _ [55, 56, 57, 10, 58, 59, 40, 60, 61, 62, 63, 8, 64, 65, 66, 67, 68, 69, 70, 71, 72, 73, 74, 75, 87, 88, 89, 90, 91, 92, 93, 94, 95, 96, 97, 98, 99, 100, 101, 102, 103, 104, 105, 106, 107, 108, 109, 110, 111, 112, 113, 114, 115, 116, 117] rfl (by decide +kernel)
set_option maxRecDepth 20000 in
theorem gX12_behindOne_X12_nextToken : GoodIn wsX12_behindOne (wsV RX12 184 RX12 yX12_nextToken wsX12_nextToken) := goodIn_app (goodIn_of _ (by decide +kernel)) ggX12_behindOne_X12_nextToken
set_option maxRecDepth 20000 in
theorem ggX12_behindOne_X12_openNow : GoodIn wsX12_behindOne wsX12_openNow := goodIn_r _ [14, 1, 15, 16, 17, 8, 18, 2, 87, 88, 89, 90, 91, 92, 93, 94, 95, 96, 97, 98, 99, 100, 101, 102, 103, 104, 105, 106, 107, 108, 109, 110, 111, 112, 113, 114, 115, 116, 117] rfl (by decide +kernel)
set_option maxRecDepth 20000 in
theorem gX12_behindOne_X12_openNow : GoodIn wsX12_behindOne (wsV RX12 181 RX12 yX12_openNow wsX12_openNow) := goodIn_app (goodIn_of _ (by decide +kernel)) ggX12_behindOne_X12_openNow
set_option maxRecDepth 20000 in
theorem ggX12_behindOne_X12_partOf : GoodIn wsX12_behindOne wsX12_partOf := goodIn_r _ [79, 10, 80, 81, 8, 82, 30, 31, 32, 33, 34, 35, 36, 37, 38, 39, 40, 19, 20, 21, 22, 2, 1, 23, 24, 25, 87, 88, 89, 90, 91, 92, 93, 94, 95, 96, 97, 98, 99, 100, 101, 102, 103, 104, 105, 106, 107, 108, 109, 110, 111, 112, 113, 114, 115, 116, 117] rfl (by decide +kernel)
set_option maxRecDepth 20000 in
theorem gX12_behindOne_X12_partOf : GoodIn wsX12_behindOne (wsV RX12 222 RX12 yX12_partOf wsX12_partOf) := goodIn_app (goodIn_of _ (by decide +kernel)) ggX12_behindOne_X12_partOf
set_option maxRecDepth 20000 in
theorem ggX12_behindOne_X12_emit : GoodIn wsX12_behindOne wsX12_emit := goodIn_r _ [48, 49, 50, 51, 87, 88, 89, 90, 91, 92, 93, 94, 95, 96, 97, 98, 99, 100, 101, 102, 103, 104, 105, 106, 107, 108, 109, 110, 111, 112, 113, 114, 115, 116, 117] rfl (by decide +kernel)
set_option maxRecDepth 20000 in
theorem gX12_behindOne_X12_emit : GoodIn wsX12_behindOne (wsV RX12 170 RX12 yX12_emit wsX12_emit) := goodIn_app (goodIn_of _ (by decide +kernel)) ggX12_behindOne_X12_emit
set_option maxRecDepth 20000 in
theorem ggX12_behindOne_X12_endOne : GoodIn wsX12_behindOne wsX12_endOne := goodIn_r _ [86, 3, 2, 1, 41, 42, 43, 8, 44, 4, 23, 24, 25, 45, 46, 47, 48, 49, 50, 51, 80, 81, 82, 30, 31, 32, 33, 34, 35, 36, 37, 38, 39, 10, 40, 52, 53, 54, 55, 56, 57, 58, 59, 60, 61, 62, 63, 64, 65, 66, 67, 68, 69, 70, 71, 72, 73, 74, 75, 87, 88, 89, 90, 91, 92, 93, 94, 95, 96, 97, 98, 99, 100, 101, 102, 103, 104, 105, 106, 107, 108, 109, 110, 111, 112, 113, 114, 115, 116, 117] rfl (by decide +kernel)
set_option maxRecDepth 20000 in
theorem gX12_behindOne_X12_endOne : GoodIn wsX12_behindOne (wsV RX12 193 RX12 yX12_endOne wsX12_endOne) := goodIn_app (goodIn_of _ (by decide +kernel)) ggX12_behindOne_X12_endOne
set_option maxRecDepth 20000 in
theorem ggX12_behindOne_X12_openAt : GoodIn wsX12_behindOne wsX12_openAt := goodIn_r _ [18, 2, 1, 87, 88, 89, 90, 91, 92, 93, 94, 95, 96, 97, 98, 99, 100, 101, 102, 103, 104, 105, 106, 107, 108, 109, 110, 111, 112, 113, 114, 115, 116, 117] rfl (by decide +kernel)
set_option maxRecDepth 20000 in
theorem gX12_behindOne_X12_openAt : GoodIn wsX12_behindOne (wsV RX12 177 RX12 yX12_openAt wsX12_openAt) := goodIn_app (goodIn_of _ (by decide +kernel)) ggX12_behindOne_X12_openAt
theorem dX12_behindOne_0 : decode cX12_behindOne 0 = .ok (.aload_n 0, 1) := by decide +kernel
theorem dX12_behindOne_1 : decode cX12_behindOne 1 = .ok (.invokevirtual 219, 3) := by decide +kernel
theorem dX12_behindOne_4 : decode cX12_behindOne 4 = .ok (.istore_n 1, 1) := by decide +kernel
theorem dX12_behindOne_5 : decode cX12_behindOne 5 = .ok (.iload_n 1, 1) := by decide +kernel
theorem dX12_behindOne_6 : decode cX12_behindOne 6 = .ok (.ifCond .lt 54, 3) := by decide +kernel
theorem dX12_behindOne_9 : decode cX12_behindOne 9 = .ok (.aload_n 0, 1) := by decide +kernel
theorem dX12_behindOne_10 : decode cX12_behindOne 10 = .ok (.iload_n 1, 1) := by decide +kernel
theorem dX12_behindOne_11 : decode cX12_behindOne 11 = .ok (.invokestatic 167, 3) := by decide +kernel
theorem dX12_behindOne_14 : decode cX12_behindOne 14 = .ok (.iconst 4, 1) := by decide +kernel
theorem dX12_behindOne_15 : decode cX12_behindOne 15 = .ok (.if_icmp .ne 7, 3) := by decide +kernel
theorem dX12_behindOne_18 : decode cX12_behindOne 18 = .ok (.iconst 5, 1) := by decide +kernel
theorem dX12_behindOne_19 : decode cX12_behindOne 19 = .ok (.goto 7, 3) := by decide +kernel
theorem dX12_behindOne_22 : decode cX12_behindOne 22 = .ok (.iload_n 1, 1) := by decide +kernel
theorem dX12_behindOne_23 : decode cX12_behindOne 23 = .ok (.invokestatic 167, 3) := by decide +kernel
theorem dX12_behindOne_26 : decode cX12_behindOne 26 = .ok (.invokevirtual 206, 3) := by decide +kernel
theorem dX12_behindOne_29 : decode cX12_behindOne 29 = .ok (.aload_n 0, 1) := by decide +kernel
theorem dX12_behindOne_30 : decode cX12_behindOne 30 = .ok (.getfield 29, 3) := by decide +kernel
theorem dX12_behindOne_33 : decode cX12_behindOne 33 = .ok (.aload_n 0, 1) := by decide +kernel
theorem dX12_behindOne_34 : decode cX12_behindOne 34 = .ok (.getfield 164, 3) := by decide +kernel
theorem dX12_behindOne_37 : decode cX12_behindOne 37 = .ok (.iload_n 1, 1) := by decide +kernel
theorem dX12_behindOne_38 : decode cX12_behindOne 38 = .ok (.iastore, 1) := by decide +kernel
theorem dX12_behindOne_39 : decode cX12_behindOne 39 = .ok (.aload_n 0, 1) := by decide +kernel
theorem dX12_behindOne_40 : decode cX12_behindOne 40 = .ok (.dup, 1) := by decide +kernel
theorem dX12_behindOne_41 : decode cX12_behindOne 41 = .ok (.getfield 164, 3) := by decide +kernel
theorem dX12_behindOne_44 : decode cX12_behindOne 44 = .ok (.iconst 1, 1) := by decide +kernel
theorem dX12_behindOne_45 : decode cX12_behindOne 45 = .ok (.iadd, 1) := by decide +kernel
theorem dX12_behindOne_46 : decode cX12_behindOne 46 = .ok (.putfield 164, 3) := by decide +kernel
theorem dX12_behindOne_49 : decode cX12_behindOne 49 = .ok (.aload_n 0, 1) := by decide +kernel
theorem dX12_behindOne_50 : decode cX12_behindOne 50 = .ok (.iconst 0, 1) := by decide +kernel
theorem dX12_behindOne_51 : decode cX12_behindOne 51 = .ok (.putfield 209, 3) := by decide +kernel
theorem dX12_behindOne_54 : decode cX12_behindOne 54 = .ok (.aload_n 0, 1) := by decide +kernel
theorem dX12_behindOne_55 : decode cX12_behindOne 55 = .ok (.invokevirtual 184, 3) := by decide +kernel
theorem dX12_behindOne_58 : decode cX12_behindOne 58 = .ok (.iconst 0, 1) := by decide +kernel
theorem dX12_behindOne_59 : decode cX12_behindOne 59 = .ok (.ireturn, 1) := by decide +kernel
theorem dX12_behindOne_60 : decode cX12_behindOne 60 = .ok (.aload_n 0, 1) := by decide +kernel
theorem dX12_behindOne_61 : decode cX12_behindOne 61 = .ok (.invokevirtual 181, 3) := by decide +kernel
theorem dX12_behindOne_64 : decode cX12_behindOne 64 = .ok (.istore_n 2, 1) := by decide +kernel
theorem dX12_behindOne_65 : decode cX12_behindOne 65 = .ok (.aload_n 0, 1) := by decide +kernel
theorem dX12_behindOne_66 : decode cX12_behindOne 66 = .ok (.iload_n 2, 1) := by decide +kernel
theorem dX12_behindOne_67 : decode cX12_behindOne 67 = .ok (.invokevirtual 222, 3) := by decide +kernel
theorem dX12_behindOne_70 : decode cX12_behindOne 70 = .ok (.istore_n 3, 1) := by decide +kernel
theorem dX12_behindOne_71 : decode cX12_behindOne 71 = .ok (.iload_n 3, 1) := by decide +kernel
theorem dX12_behindOne_72 : decode cX12_behindOne 72 = .ok (.ifCond .ge 5, 3) := by decide +kernel
theorem dX12_behindOne_75 : decode cX12_behindOne 75 = .ok (.iconst (-1), 1) := by decide +kernel
theorem dX12_behindOne_76 : decode cX12_behindOne 76 = .ok (.ireturn, 1) := by decide +kernel
theorem dX12_behindOne_77 : decode cX12_behindOne 77 = .ok (.aload_n 0, 1) := by decide +kernel
theorem dX12_behindOne_78 : decode cX12_behindOne 78 = .ok (.iconst 1, 1) := by decide +kernel
theorem dX12_behindOne_79 : decode cX12_behindOne 79 = .ok (.invokevirtual 206, 3) := by decide +kernel
theorem dX12_behindOne_82 : decode cX12_behindOne 82 = .ok (.aload_n 0, 1) := by decide +kernel
theorem dX12_behindOne_83 : decode cX12_behindOne 83 = .ok (.invokevirtual 184, 3) := by decide +kernel
theorem dX12_behindOne_86 : decode cX12_behindOne 86 = .ok (.iload_n 3, 1) := by decide +kernel
theorem dX12_behindOne_87 : decode cX12_behindOne 87 = .ok (.ifCond .ne 40, 3) := by decide +kernel
theorem dX12_behindOne_90 : decode cX12_behindOne 90 = .ok (.aload_n 0, 1) := by decide +kernel
theorem dX12_behindOne_91 : decode cX12_behindOne 91 = .ok (.dup, 1) := by decide +kernel
theorem dX12_behindOne_92 : decode cX12_behindOne 92 = .ok (.getfield 174, 3) := by decide +kernel
theorem dX12_behindOne_95 : decode cX12_behindOne 95 = .ok (.iconst 1, 1) := by decide +kernel
theorem dX12_behindOne_96 : decode cX12_behindOne 96 = .ok (.isub, 1) := by decide +kernel
theorem dX12_behindOne_97 : decode cX12_behindOne 97 = .ok (.putfield 174, 3) := by decide +kernel
theorem dX12_behindOne_100 : decode cX12_behindOne 100 = .ok (.aload_n 0, 1) := by decide +kernel
theorem dX12_behindOne_101 : decode cX12_behindOne 101 = .ok (.dup, 1) := by decide +kernel
theorem dX12_behindOne_102 : decode cX12_behindOne 102 = .ok (.getfield 164, 3) := by decide +kernel
theorem dX12_behindOne_105 : decode cX12_behindOne 105 = .ok (.iconst 1, 1) := by decide +kernel
theorem dX12_behindOne_106 : decode cX12_behindOne 106 = .ok (.isub, 1) := by decide +kernel
theorem dX12_behindOne_107 : decode cX12_behindOne 107 = .ok (.putfield 164, 3) := by decide +kernel
theorem dX12_behindOne_110 : decode cX12_behindOne 110 = .ok (.iload_n 2, 1) := by decide +kernel
theorem dX12_behindOne_111 : decode cX12_behindOne 111 = .ok (.bipush 45, 2) := by decide +kernel
theorem dX12_behindOne_113 : decode cX12_behindOne 113 = .ok (.if_icmp .ne 9, 3) := by decide +kernel
theorem dX12_behindOne_116 : decode cX12_behindOne 116 = .ok (.aload_n 0, 1) := by decide +kernel
theorem dX12_behindOne_117 : decode cX12_behindOne 117 = .ok (.iconst 3, 1) := by decide +kernel
theorem dX12_behindOne_118 : decode cX12_behindOne 118 = .ok (.iconst 0, 1) := by decide +kernel
theorem dX12_behindOne_119 : decode cX12_behindOne 119 = .ok (.invokevirtual 170, 3) := by decide +kernel
theorem dX12_behindOne_122 : decode cX12_behindOne 122 = .ok (.aload_n 0, 1) := by decide +kernel
theorem dX12_behindOne_123 : decode cX12_behindOne 123 = .ok (.invokevirtual 193, 3) := by decide +kernel
theorem dX12_behindOne_126 : decode cX12_behindOne 126 = .ok (.ireturn, 1) := by decide +kernel
theorem dX12_behindOne_127 : decode cX12_behindOne 127 = .ok (.aload_n 0, 1) := by decide +kernel
theorem dX12_behindOne_128 : decode cX12_behindOne 128 = .ok (.getfield 29, 3) := by decide +kernel
theorem dX12_behindOne_131 : decode cX12_behindOne 131 = .ok (.aload_n 0, 1) := by decide +kernel
theorem dX12_behindOne_132 : decode cX12_behindOne 132 = .ok (.invokevirtual 177, 3) := by decide +kernel
theorem dX12_behindOne_135 : decode cX12_behindOne 135 = .ok (.iload_n 3, 1) := by decide +kernel
theorem dX12_behindOne_136 : decode cX12_behindOne 136 = .ok (.iastore, 1) := by decide +kernel
theorem dX12_behindOne_137 : decode cX12_behindOne 137 = .ok (.aload_n 0, 1) := by decide +kernel
theorem dX12_behindOne_138 : decode cX12_behindOne 138 = .ok (.iconst 0, 1) := by decide +kernel
theorem dX12_behindOne_139 : decode cX12_behindOne 139 = .ok (.putfield 209, 3) := by decide +kernel
theorem dX12_behindOne_142 : decode cX12_behindOne 142 = .ok (.iconst 0, 1) := by decide +kernel
theorem dX12_behindOne_143 : decode cX12_behindOne 143 = .ok (.ireturn, 1) := by decide +kernel
set_option maxRecDepth 20000 in
theorem ggX12_summed_X12_behindOne : GoodIn wsX12_summed wsX12_behindOne := goodIn_r _ [8, 9, 1, 3, 2, 10, 11, 12, 7, 13, 14, 15, 16, 17, 18, 19, 20, 21, 22, 23, 24, 25, 26, 27, 28, 29, 30, 31, 32, 33, 34, 35, 36, 37, 38, 39, 40, 41, 42, 43, 44, 45, 46, 47, 48, 49, 50, 51, 52, 53, 54, 55, 56, 57, 58, 59, 60, 61, 62, 63, 64, 65, 66, 67, 68, 69, 70, 71, 72, 73, 74, 75, 76, 77, 78, 79, 80, 81, 82, 83, 84, 85, 86, 87, 88, 89, 90, 122, 123, 124, 125, 126, 127, 128, 129, 130, 131, 132, 133, 134, 135, 136, 137, 138, 139, 140, 141, 142, 143, 144, 145, 146, 147, 148, 149, 150, 151, 152] rfl (by decide +kernel)
set_option maxRecDepth 20000 in
theorem gX12_summed_X12_behindOne : GoodIn wsX12_summed (wsV RX12 225 RX12 yX12_behindOne wsX12_behindOne) := goodIn_app (goodIn_of _ (by decide +kernel)) ggX12_summed_X12_behindOne
set_option maxRecDepth 20000 in
theorem ggX12_summed_X12_beginOne : GoodIn wsX12_summed wsX12_beginOne := goodIn_r _ [94, 14, 62, 95, 96, 97, 7, 98, 44, 34, 35, 36, 37, 38, 39, 84, 85, 86, 99, 100, 101, 102, 103, 104, 105, 60, 61, 65, 66, 67, 68, 69, 70, 106, 107, 108, 109, 110, 49, 50, 51, 52, 53, 54, 55, 56, 57, 58, 59, 63, 64, 71, 72, 73, 74, 75, 76, 77, 78, 79, 87, 88, 89, 90, 3, 1, 9, 45, 46, 47, 48, 2, 27, 28, 29, 40, 41, 42, 43, 111, 112, 113, 114, 115, 116, 117, 118, 15, 16, 17, 18, 19, 20, 21, 22, 119, 120, 121, 122, 123, 124, 125, 126, 127, 128, 129, 130, 131, 132, 133, 134, 135, 136, 137, 138, 139, 140, 141, 142, 143, 144, 145, 146, 147, 148, 149, 150, 151, 152] rfl (by decide +kernel)
set_option maxRecDepth 20000 in
theorem gX12_summed_X12_beginOne : GoodIn wsX12_summed (wsV RX12 228 RX12 yX12_beginOne wsX12_beginOne) := goodIn_app (goodIn_of _ (by decide +kernel)) ggX12_summed_X12_beginOne
set_option maxRecDepth 20000 in
theorem ggX12_summed_X12_openNow : GoodIn wsX12_summed wsX12_openNow := goodIn_r _ [18, 9, 19, 20, 21, 7, 22, 1, 122, 123, 124, 125, 126, 127, 128, 129, 130, 131, 132, 133, 134, 135, 136, 137, 138, 139, 140, 141, 142, 143, 144, 145, 146, 147, 148, 149, 150, 151, 152] rfl (by decide +kernel)
set_option maxRecDepth 20000 in
theorem gX12_summed_X12_openNow : GoodIn wsX12_summed (wsV RX12 181 RX12 yX12_openNow wsX12_openNow) := goodIn_app (goodIn_of _ (by decide +kernel)) ggX12_summed_X12_openNow
set_option maxRecDepth 20000 in
theorem ggX12_summed_X12_settle : GoodIn wsX12_summed wsX12_settle := goodIn_r _ [48, 1, 9, 2, 27, 28, 7, 29, 49, 50, 51, 52, 53, 54, 55, 122, 123, 124, 125, 126, 127, 128, 129, 130, 131, 132, 133, 134, 135, 136, 137, 138, 139, 140, 141, 142, 143, 144, 145, 146, 147, 148, 149, 150, 151, 152] rfl (by decide +kernel)
set_option maxRecDepth 20000 in
theorem gX12_summed_X12_settle : GoodIn wsX12_summed (wsV RX12 206 RX12 yX12_settle wsX12_settle) := goodIn_app (goodIn_of _ (by decide +kernel)) ggX12_summed_X12_settle
theorem dX12_summed_0 : decode cX12_summed 0 = .ok (.aload_n 0, 1) := by decide +kernel
theorem dX12_summed_1 : decode cX12_summed 1 = .ok (.iconst 0, 1) := by decide +kernel
theorem dX12_summed_2 : decode cX12_summed 2 = .ok (.putfield 164, 3) := by decide +kernel
theorem dX12_summed_5 : decode cX12_summed 5 = .ok (.aload_n 0, 1) := by decide +kernel
theorem dX12_summed_6 : decode cX12_summed 6 = .ok (.iconst 0, 1) := by decide +kernel
theorem dX12_summed_7 : decode cX12_summed 7 = .ok (.putfield 174, 3) := by decide +kernel
theorem dX12_summed_10 : decode cX12_summed 10 = .ok (.aload_n 0, 1) := by decide +kernel
theorem dX12_summed_11 : decode cX12_summed 11 = .ok (.iconst 0, 1) := by decide +kernel
theorem dX12_summed_12 : decode cX12_summed 12 = .ok (.putfield 209, 3) := by decide +kernel
theorem dX12_summed_15 : decode cX12_summed 15 = .ok (.aload_n 0, 1) := by decide +kernel
theorem dX12_summed_16 : decode cX12_summed 16 = .ok (.getfield 209, 3) := by decide +kernel
theorem dX12_summed_19 : decode cX12_summed 19 = .ok (.ifCond .eq 10, 3) := by decide +kernel
theorem dX12_summed_22 : decode cX12_summed 22 = .ok (.aload_n 0, 1) := by decide +kernel
theorem dX12_summed_23 : decode cX12_summed 23 = .ok (.invokevirtual 225, 3) := by decide +kernel
theorem dX12_summed_26 : decode cX12_summed 26 = .ok (.goto 7, 3) := by decide +kernel
theorem dX12_summed_29 : decode cX12_summed 29 = .ok (.aload_n 0, 1) := by decide +kernel
theorem dX12_summed_30 : decode cX12_summed 30 = .ok (.invokevirtual 228, 3) := by decide +kernel
theorem dX12_summed_33 : decode cX12_summed 33 = .ok (.istore_n 1, 1) := by decide +kernel
theorem dX12_summed_34 : decode cX12_summed 34 = .ok (.iload_n 1, 1) := by decide +kernel
theorem dX12_summed_35 : decode cX12_summed 35 = .ok (.ifCond .le 5, 3) := by decide +kernel
theorem dX12_summed_38 : decode cX12_summed 38 = .ok (.iload_n 1, 1) := by decide +kernel
theorem dX12_summed_39 : decode cX12_summed 39 = .ok (.ireturn, 1) := by decide +kernel
theorem dX12_summed_40 : decode cX12_summed 40 = .ok (.iload_n 1, 1) := by decide +kernel
theorem dX12_summed_41 : decode cX12_summed 41 = .ok (.ifCond .ne 6, 3) := by decide +kernel
theorem dX12_summed_44 : decode cX12_summed 44 = .ok (.goto (-29), 3) := by decide +kernel
theorem dX12_summed_47 : decode cX12_summed 47 = .ok (.aload_n 0, 1) := by decide +kernel
theorem dX12_summed_48 : decode cX12_summed 48 = .ok (.invokevirtual 181, 3) := by decide +kernel
theorem dX12_summed_51 : decode cX12_summed 51 = .ok (.ifCond .lt 5, 3) := by decide +kernel
theorem dX12_summed_54 : decode cX12_summed 54 = .ok (.iconst 1, 1) := by decide +kernel
theorem dX12_summed_55 : decode cX12_summed 55 = .ok (.ireturn, 1) := by decide +kernel
theorem dX12_summed_56 : decode cX12_summed 56 = .ok (.aload_n 0, 1) := by decide +kernel
theorem dX12_summed_57 : decode cX12_summed 57 = .ok (.iconst 1, 1) := by decide +kernel
theorem dX12_summed_58 : decode cX12_summed 58 = .ok (.invokevirtual 206, 3) := by decide +kernel
theorem dX12_summed_61 : decode cX12_summed 61 = .ok (.iconst 0, 1) := by decide +kernel
theorem dX12_summed_62 : decode cX12_summed 62 = .ok (.ireturn, 1) := by decide +kernel
set_option maxRecDepth 20000 in
theorem ggX12_figure_X12_isIn : GoodIn wsX12_figure wsX12_isIn := goodIn_r _ [7] rfl (by decide +kernel)
set_option maxRecDepth 20000 in
theorem gX12_figure_X12_isIn : GoodIn wsX12_figure (va_wsS RX12 68 yX12_isIn wsX12_isIn) := goodIn_app (goodIn_of _ (by decide +kernel)) ggX12_figure_X12_isIn
set_option maxRecDepth 20000 in
theorem ggX12_figure_X12_nextToken : GoodIn wsX12_figure wsX12_nextToken := goodIn_r _ [11, 12, 13, 1, 2, 14, 15, 16, 17, 18, 19, 6, 20, 21, 22, 23, 24, 25, 26, 27, 28, 29, 30, 31, 32, 33, 34, 35, 36, 37, 38, 39, 40, 41, 42, 43, 44, 45, 46, 47, 48, 49, 50, 51, 52, 53, 54, 55, 56, 57, 58, 59, 60, 61, 62] rfl (by decide +kernel)
set_option maxRecDepth 20000 in
theorem gX12_figure_X12_nextToken : GoodIn wsX12_figure (wsV RX12 184 RX12 yX12_nextToken wsX12_nextToken) := goodIn_app (goodIn_of _ (by decide +kernel)) ggX12_figure_X12_nextToken
theorem dX12_figure_0 : decode cX12_figure 0 = .ok (.aload_n 0, 1) := by decide +kernel
theorem dX12_figure_1 : decode cX12_figure 1 = .ok (.getfield 113, 3) := by decide +kernel
theorem dX12_figure_4 : decode cX12_figure 4 = .ok (.iconst 1, 1) := by decide +kernel
theorem dX12_figure_5 : decode cX12_figure 5 = .ok (.if_icmp .eq 5, 3) := by decide +kernel
theorem dX12_figure_8 : decode cX12_figure 8 = .ok (.iconst 1, 1) := by decide +kernel
theorem dX12_figure_9 : decode cX12_figure 9 = .ok (.ireturn, 1) := by decide +kernel
theorem dX12_figure_10 : decode cX12_figure 10 = .ok (.aload_n 0, 1) := by decide +kernel
theorem dX12_figure_11 : decode cX12_figure 11 = .ok (.getfield 119, 3) := by decide +kernel
theorem dX12_figure_14 : decode cX12_figure 14 = .ok (.iload_n 2, 1) := by decide +kernel
theorem dX12_figure_15 : decode cX12_figure 15 = .ok (.iload_n 3, 1) := by decide +kernel
theorem dX12_figure_16 : decode cX12_figure 16 = .ok (.invokestatic 68, 3) := by decide +kernel
theorem dX12_figure_19 : decode cX12_figure 19 = .ok (.ifCond .ne 5, 3) := by decide +kernel
theorem dX12_figure_22 : decode cX12_figure 22 = .ok (.iconst 2, 1) := by decide +kernel
theorem dX12_figure_23 : decode cX12_figure 23 = .ok (.ireturn, 1) := by decide +kernel
theorem dX12_figure_24 : decode cX12_figure 24 = .ok (.aload_n 0, 1) := by decide +kernel
theorem dX12_figure_25 : decode cX12_figure 25 = .ok (.getfield 16, 3) := by decide +kernel
theorem dX12_figure_28 : decode cX12_figure 28 = .ok (.iload_n 1, 1) := by decide +kernel
theorem dX12_figure_29 : decode cX12_figure 29 = .ok (.aload_n 0, 1) := by decide +kernel
theorem dX12_figure_30 : decode cX12_figure 30 = .ok (.getfield 119, 3) := by decide +kernel
theorem dX12_figure_33 : decode cX12_figure 33 = .ok (.iastore, 1) := by decide +kernel
theorem dX12_figure_34 : decode cX12_figure 34 = .ok (.aload_n 0, 1) := by decide +kernel
theorem dX12_figure_35 : decode cX12_figure 35 = .ok (.invokevirtual 184, 3) := by decide +kernel
theorem dX12_figure_38 : decode cX12_figure 38 = .ok (.iconst 0, 1) := by decide +kernel
theorem dX12_figure_39 : decode cX12_figure 39 = .ok (.ireturn, 1) := by decide +kernel
set_option maxRecDepth 20000 in
theorem ggX12_worded_X12_isWord : GoodIn wsX12_worded wsX12_isWord := goodIn_r _ [5, 6, 7, 40, 41, 42, 43, 44, 45, 46, 47, 48, 49, 50, 51, 52, 53, 54, 55, 56, 57, 58, 59, 60, 61, 62, 63, 64, 65, 66, 67, 68, 69, 70] rfl (by decide +kernel)
set_option maxRecDepth 20000 in
theorem gX12_worded_X12_isWord : GoodIn wsX12_worded (wsV RX12 199 RX12 yX12_isWord wsX12_isWord) := goodIn_app (goodIn_of _ (by decide +kernel)) ggX12_worded_X12_isWord
set_option maxRecDepth 20000 in
theorem ggX12_worded_X12_nextToken : GoodIn wsX12_worded wsX12_nextToken := goodIn_r _ [11, 12, 13, 6, 14, 15, 7, 16, 17, 18, 19, 4, 20, 21, 22, 23, 24, 25, 26, 27, 28, 29, 30, 31, 40, 41, 42, 43, 44, 45, 46, 47, 48, 49, 50, 51, 52, 53, 54, 55, 56, 57, 58, 59, 60, 61, 62, 63, 64, 65, 66, 67, 68, 69, 70] rfl (by decide +kernel)
set_option maxRecDepth 20000 in
theorem gX12_worded_X12_nextToken : GoodIn wsX12_worded (wsV RX12 184 RX12 yX12_nextToken wsX12_nextToken) := goodIn_app (goodIn_of _ (by decide +kernel)) ggX12_worded_X12_nextToken
set_option maxRecDepth 20000 in
theorem ggX12_worded_X12_figure : GoodIn wsX12_worded wsX12_figure := goodIn_r _ [35, 6, 14, 36, 37, 38, 4, 39, 8, 9, 10, 11, 12, 13, 15, 7, 16, 17, 18, 19, 20, 21, 22, 23, 24, 25, 26, 27, 28, 29, 30, 31, 40, 41, 42, 43, 44, 45, 46, 47, 48, 49, 50, 51, 52, 53, 54, 55, 56, 57, 58, 59, 60, 61, 62, 63, 64, 65, 66, 67, 68, 69, 70] rfl (by decide +kernel)
set_option maxRecDepth 20000 in
theorem gX12_worded_X12_figure : GoodIn wsX12_worded (wsV RX12 231 RX12 yX12_figure wsX12_figure) := goodIn_app (goodIn_of _ (by decide +kernel)) ggX12_worded_X12_figure
theorem dX12_worded_0 : decode cX12_worded 0 = .ok (.aload_n 0, 1) := by decide +kernel
theorem dX12_worded_1 : decode cX12_worded 1 = .ok (.lload_n 1, 1) := by decide +kernel
theorem dX12_worded_2 : decode cX12_worded 2 = .ok (.invokevirtual 199, 3) := by decide +kernel
theorem dX12_worded_5 : decode cX12_worded 5 = .ok (.ifCond .ne 5, 3) := by decide +kernel
theorem dX12_worded_8 : decode cX12_worded 8 = .ok (.iconst 1, 1) := by decide +kernel
theorem dX12_worded_9 : decode cX12_worded 9 = .ok (.ireturn, 1) := by decide +kernel
theorem dX12_worded_10 : decode cX12_worded 10 = .ok (.aload_n 0, 1) := by decide +kernel
theorem dX12_worded_11 : decode cX12_worded 11 = .ok (.invokevirtual 184, 3) := by decide +kernel
theorem dX12_worded_14 : decode cX12_worded 14 = .ok (.aload_n 0, 1) := by decide +kernel
theorem dX12_worded_15 : decode cX12_worded 15 = .ok (.iload_n 3, 1) := by decide +kernel
theorem dX12_worded_16 : decode cX12_worded 16 = .ok (.iconst 0, 1) := by decide +kernel
theorem dX12_worded_17 : decode cX12_worded 17 = .ok (.iload 4, 2) := by decide +kernel
theorem dX12_worded_19 : decode cX12_worded 19 = .ok (.invokevirtual 231, 3) := by decide +kernel
theorem dX12_worded_22 : decode cX12_worded 22 = .ok (.ireturn, 1) := by decide +kernel
set_option maxRecDepth 20000 in
theorem ggX12_lawClause_X12_summed : GoodIn wsX12_lawClause wsX12_summed := goodIn_r _ [7, 8, 9, 10, 11, 12, 13, 6, 14, 15, 16, 17, 18, 19, 20, 21, 22, 23, 24, 25, 26, 27, 28, 29, 30, 31, 32, 33, 34, 35, 36, 37, 38, 39, 40, 41, 42, 43, 44, 45, 46, 47, 48, 49, 50, 51, 52, 53, 54, 55, 56, 57, 58, 1, 59, 2, 60, 61, 62, 63, 64, 65, 66, 67, 68, 69, 70, 71, 72, 73, 74, 75, 76, 77, 78, 79, 80, 81, 82, 83, 84, 85, 86, 87, 88, 89, 90, 91, 92, 93, 94, 95, 96, 97, 98, 99, 100, 101, 102, 103, 104, 105, 106, 107, 108, 109, 110, 111, 112, 113, 114, 115, 116, 117, 118, 119, 120, 121, 122, 123, 124, 125, 126, 127, 128, 129, 130, 131, 132, 133, 134, 135, 136, 137, 138, 139, 140, 141, 142, 143, 144, 145, 146, 147, 148, 149, 150, 151, 152, 153, 154, 155, 156] rfl (by decide +kernel)
set_option maxRecDepth 20000 in
theorem gX12_lawClause_X12_summed : GoodIn wsX12_lawClause (wsV RX12 235 RX12 yX12_summed wsX12_summed) := goodIn_app (goodIn_of _ (by decide +kernel)) ggX12_lawClause_X12_summed
theorem dX12_lawClause_0 : decode cX12_lawClause 0 = .ok (.aload_n 0, 1) := by decide +kernel
theorem dX12_lawClause_1 : decode cX12_lawClause 1 = .ok (.getfield 16, 3) := by decide +kernel
theorem dX12_lawClause_4 : decode cX12_lawClause 4 = .ok (.iload_n 1, 1) := by decide +kernel
theorem dX12_lawClause_5 : decode cX12_lawClause 5 = .ok (.iconst 1, 1) := by decide +kernel
theorem dX12_lawClause_6 : decode cX12_lawClause 6 = .ok (.iadd, 1) := by decide +kernel
theorem dX12_lawClause_7 : decode cX12_lawClause 7 = .ok (.aload_n 0, 1) := by decide +kernel
theorem dX12_lawClause_8 : decode cX12_lawClause 8 = .ok (.getfield 154, 3) := by decide +kernel
theorem dX12_lawClause_11 : decode cX12_lawClause 11 = .ok (.iastore, 1) := by decide +kernel
theorem dX12_lawClause_12 : decode cX12_lawClause 12 = .ok (.aload_n 0, 1) := by decide +kernel
theorem dX12_lawClause_13 : decode cX12_lawClause 13 = .ok (.invokevirtual 235, 3) := by decide +kernel
theorem dX12_lawClause_16 : decode cX12_lawClause 16 = .ok (.istore_n 2, 1) := by decide +kernel
theorem dX12_lawClause_17 : decode cX12_lawClause 17 = .ok (.aload_n 0, 1) := by decide +kernel
theorem dX12_lawClause_18 : decode cX12_lawClause 18 = .ok (.getfield 16, 3) := by decide +kernel
theorem dX12_lawClause_21 : decode cX12_lawClause 21 = .ok (.iload_n 1, 1) := by decide +kernel
theorem dX12_lawClause_22 : decode cX12_lawClause 22 = .ok (.iconst 2, 1) := by decide +kernel
theorem dX12_lawClause_23 : decode cX12_lawClause 23 = .ok (.iadd, 1) := by decide +kernel
theorem dX12_lawClause_24 : decode cX12_lawClause 24 = .ok (.aload_n 0, 1) := by decide +kernel
theorem dX12_lawClause_25 : decode cX12_lawClause 25 = .ok (.getfield 154, 3) := by decide +kernel
theorem dX12_lawClause_28 : decode cX12_lawClause 28 = .ok (.iastore, 1) := by decide +kernel
theorem dX12_lawClause_29 : decode cX12_lawClause 29 = .ok (.iload_n 2, 1) := by decide +kernel
theorem dX12_lawClause_30 : decode cX12_lawClause 30 = .ok (.ireturn, 1) := by decide +kernel
set_option maxRecDepth 20000 in
theorem ggX12_moodClause_X12_figure : GoodIn wsX12_moodClause wsX12_figure := goodIn_r _ [5, 6, 7, 8, 9, 10, 4, 11, 12, 13, 14, 15, 16, 17, 18, 19, 20, 21, 22, 23, 24, 25, 26, 27, 28, 29, 30, 31, 32, 33, 34, 35, 47, 48, 49, 50, 51, 52, 53, 54, 55, 56, 57, 58, 59, 60, 61, 62, 63, 64, 65, 66, 67, 68, 69, 70, 71, 72, 73, 74, 75, 76, 77] rfl (by decide +kernel)
set_option maxRecDepth 20000 in
theorem gX12_moodClause_X12_figure : GoodIn wsX12_moodClause (wsV RX12 231 RX12 yX12_figure wsX12_figure) := goodIn_app (goodIn_of _ (by decide +kernel)) ggX12_moodClause_X12_figure
set_option maxRecDepth 20000 in
theorem ggX12_moodClause_X12_w2 : GoodIn wsX12_moodClause wsX12_w2 := goodIn_r _ [38] rfl (by decide +kernel)
set_option maxRecDepth 20000 in
theorem gX12_moodClause_X12_w2 : GoodIn wsX12_moodClause (va_wsS RX12 135 yX12_w2 wsX12_w2) := goodIn_app (goodIn_of _ (by decide +kernel)) ggX12_moodClause_X12_w2
set_option maxRecDepth 20000 in
theorem ggX12_moodClause_X12_worded : GoodIn wsX12_moodClause wsX12_worded := goodIn_r _ [42, 43, 44, 45, 4, 46, 6, 19, 12, 13, 14, 15, 16, 17, 7, 18, 20, 21, 22, 23, 24, 25, 26, 27, 28, 29, 30, 31, 32, 33, 34, 35, 1, 2, 3, 5, 8, 9, 10, 11, 47, 48, 49, 50, 51, 52, 53, 54, 55, 56, 57, 58, 59, 60, 61, 62, 63, 64, 65, 66, 67, 68, 69, 70, 71, 72, 73, 74, 75, 76, 77] rfl (by decide +kernel)
set_option maxRecDepth 20000 in
theorem gX12_moodClause_X12_worded : GoodIn wsX12_moodClause (wsV RX12 238 RX12 yX12_worded wsX12_worded) := goodIn_app (goodIn_of _ (by decide +kernel)) ggX12_moodClause_X12_worded
theorem dX12_moodClause_0 : decode cX12_moodClause 0 = .ok (.aload_n 0, 1) := by decide +kernel
theorem dX12_moodClause_1 : decode cX12_moodClause 1 = .ok (.iload_n 1, 1) := by decide +kernel
theorem dX12_moodClause_2 : decode cX12_moodClause 2 = .ok (.iconst 1, 1) := by decide +kernel
theorem dX12_moodClause_3 : decode cX12_moodClause 3 = .ok (.iadd, 1) := by decide +kernel
theorem dX12_moodClause_4 : decode cX12_moodClause 4 = .ok (.iconst 0, 1) := by decide +kernel
theorem dX12_moodClause_5 : decode cX12_moodClause 5 = .ok (.bipush 9, 2) := by decide +kernel
theorem dX12_moodClause_7 : decode cX12_moodClause 7 = .ok (.invokevirtual 231, 3) := by decide +kernel
theorem dX12_moodClause_10 : decode cX12_moodClause 10 = .ok (.istore_n 2, 1) := by decide +kernel
theorem dX12_moodClause_11 : decode cX12_moodClause 11 = .ok (.iload_n 2, 1) := by decide +kernel
theorem dX12_moodClause_12 : decode cX12_moodClause 12 = .ok (.ifCond .ne 19, 3) := by decide +kernel
theorem dX12_moodClause_15 : decode cX12_moodClause 15 = .ok (.aload_n 0, 1) := by decide +kernel
theorem dX12_moodClause_16 : decode cX12_moodClause 16 = .ok (.bipush 98, 2) := by decide +kernel
theorem dX12_moodClause_18 : decode cX12_moodClause 18 = .ok (.bipush 121, 2) := by decide +kernel
theorem dX12_moodClause_20 : decode cX12_moodClause 20 = .ok (.invokestatic 135, 3) := by decide +kernel
theorem dX12_moodClause_23 : decode cX12_moodClause 23 = .ok (.iload_n 1, 1) := by decide +kernel
theorem dX12_moodClause_24 : decode cX12_moodClause 24 = .ok (.iconst 2, 1) := by decide +kernel
theorem dX12_moodClause_25 : decode cX12_moodClause 25 = .ok (.iadd, 1) := by decide +kernel
theorem dX12_moodClause_26 : decode cX12_moodClause 26 = .ok (.iconst 4, 1) := by decide +kernel
theorem dX12_moodClause_27 : decode cX12_moodClause 27 = .ok (.invokevirtual 238, 3) := by decide +kernel
theorem dX12_moodClause_30 : decode cX12_moodClause 30 = .ok (.istore_n 2, 1) := by decide +kernel
theorem dX12_moodClause_31 : decode cX12_moodClause 31 = .ok (.iload_n 2, 1) := by decide +kernel
theorem dX12_moodClause_32 : decode cX12_moodClause 32 = .ok (.ifCond .eq 7, 3) := by decide +kernel
theorem dX12_moodClause_35 : decode cX12_moodClause 35 = .ok (.iload_n 2, 1) := by decide +kernel
theorem dX12_moodClause_36 : decode cX12_moodClause 36 = .ok (.goto 19, 3) := by decide +kernel
theorem dX12_moodClause_39 : decode cX12_moodClause 39 = .ok (.aload_n 0, 1) := by decide +kernel
theorem dX12_moodClause_40 : decode cX12_moodClause 40 = .ok (.bipush 116, 2) := by decide +kernel
theorem dX12_moodClause_42 : decode cX12_moodClause 42 = .ok (.bipush 111, 2) := by decide +kernel
theorem dX12_moodClause_44 : decode cX12_moodClause 44 = .ok (.invokestatic 135, 3) := by decide +kernel
theorem dX12_moodClause_47 : decode cX12_moodClause 47 = .ok (.iload_n 1, 1) := by decide +kernel
theorem dX12_moodClause_48 : decode cX12_moodClause 48 = .ok (.iconst 3, 1) := by decide +kernel
theorem dX12_moodClause_49 : decode cX12_moodClause 49 = .ok (.iadd, 1) := by decide +kernel
theorem dX12_moodClause_50 : decode cX12_moodClause 50 = .ok (.bipush 9, 2) := by decide +kernel
theorem dX12_moodClause_52 : decode cX12_moodClause 52 = .ok (.invokevirtual 238, 3) := by decide +kernel
theorem dX12_moodClause_55 : decode cX12_moodClause 55 = .ok (.ireturn, 1) := by decide +kernel
set_option maxRecDepth 20000 in
theorem ggX12_pair_X12_figure : GoodIn wsX12_pair wsX12_figure := goodIn_r _ [5, 6, 7, 8, 9, 10, 4, 11, 12, 13, 14, 15, 16, 17, 18, 19, 20, 21, 22, 23, 24, 25, 26, 27, 28, 29, 30, 31, 32, 33, 34, 35, 44, 45, 46, 47, 48, 49, 50, 51, 52, 53, 54, 55, 56, 57, 58, 59, 60, 61, 62, 63, 64, 65, 66, 67, 68, 69, 70, 71, 72, 73, 74] rfl (by decide +kernel)
set_option maxRecDepth 20000 in
theorem gX12_pair_X12_figure : GoodIn wsX12_pair (wsV RX12 231 RX12 yX12_figure wsX12_figure) := goodIn_app (goodIn_of _ (by decide +kernel)) ggX12_pair_X12_figure
set_option maxRecDepth 20000 in
theorem ggX12_pair_X12_worded : GoodIn wsX12_pair wsX12_worded := goodIn_r _ [39, 40, 41, 42, 4, 43, 6, 19, 12, 13, 14, 15, 16, 17, 7, 18, 20, 21, 22, 23, 24, 25, 26, 27, 28, 29, 30, 31, 32, 33, 34, 35, 1, 2, 3, 5, 8, 9, 10, 11, 44, 45, 46, 47, 48, 49, 50, 51, 52, 53, 54, 55, 56, 57, 58, 59, 60, 61, 62, 63, 64, 65, 66, 67, 68, 69, 70, 71, 72, 73, 74] rfl (by decide +kernel)
set_option maxRecDepth 20000 in
theorem gX12_pair_X12_worded : GoodIn wsX12_pair (wsV RX12 238 RX12 yX12_worded wsX12_worded) := goodIn_app (goodIn_of _ (by decide +kernel)) ggX12_pair_X12_worded
theorem dX12_pair_0 : decode cX12_pair 0 = .ok (.aload_n 0, 1) := by decide +kernel
theorem dX12_pair_1 : decode cX12_pair 1 = .ok (.iload_n 1, 1) := by decide +kernel
theorem dX12_pair_2 : decode cX12_pair 2 = .ok (.iconst 1, 1) := by decide +kernel
theorem dX12_pair_3 : decode cX12_pair 3 = .ok (.iadd, 1) := by decide +kernel
theorem dX12_pair_4 : decode cX12_pair 4 = .ok (.iload_n 2, 1) := by decide +kernel
theorem dX12_pair_5 : decode cX12_pair 5 = .ok (.iload_n 3, 1) := by decide +kernel
theorem dX12_pair_6 : decode cX12_pair 6 = .ok (.invokevirtual 231, 3) := by decide +kernel
theorem dX12_pair_9 : decode cX12_pair 9 = .ok (.istore 7, 2) := by decide +kernel
theorem dX12_pair_11 : decode cX12_pair 11 = .ok (.iload 7, 2) := by decide +kernel
theorem dX12_pair_13 : decode cX12_pair 13 = .ok (.ifCond .eq 8, 3) := by decide +kernel
theorem dX12_pair_16 : decode cX12_pair 16 = .ok (.iload 7, 2) := by decide +kernel
theorem dX12_pair_18 : decode cX12_pair 18 = .ok (.goto 14, 3) := by decide +kernel
theorem dX12_pair_21 : decode cX12_pair 21 = .ok (.aload_n 0, 1) := by decide +kernel
theorem dX12_pair_22 : decode cX12_pair 22 = .ok (.lload 4, 2) := by decide +kernel
theorem dX12_pair_24 : decode cX12_pair 24 = .ok (.iload_n 1, 1) := by decide +kernel
theorem dX12_pair_25 : decode cX12_pair 25 = .ok (.iconst 2, 1) := by decide +kernel
theorem dX12_pair_26 : decode cX12_pair 26 = .ok (.iadd, 1) := by decide +kernel
theorem dX12_pair_27 : decode cX12_pair 27 = .ok (.iload 6, 2) := by decide +kernel
theorem dX12_pair_29 : decode cX12_pair 29 = .ok (.invokevirtual 238, 3) := by decide +kernel
theorem dX12_pair_32 : decode cX12_pair 32 = .ok (.ireturn, 1) := by decide +kernel
set_option maxRecDepth 20000 in
theorem ggX12_body_X12_w5 : GoodIn wsX12_body wsX12_w5 := goodIn_r _ [4, 5, 6, 3, 7, 8, 9, 10, 11, 12, 13] rfl (by decide +kernel)
set_option maxRecDepth 20000 in
theorem gX12_body_X12_w5 : GoodIn wsX12_body (va_wsS RX12 147 yX12_w5 wsX12_w5) := goodIn_app (goodIn_of _ (by decide +kernel)) ggX12_body_X12_w5
set_option maxRecDepth 20000 in
theorem ggX12_body_X12_pair : GoodIn wsX12_body wsX12_pair := goodIn_r _ [17, 18, 19, 20, 3, 21, 22, 23, 24, 25, 26, 27, 28, 29, 30, 31, 32, 33, 34, 35, 36, 37, 38, 39, 40, 41, 42, 43, 44, 45, 46, 47, 48, 49, 50, 51, 52, 53, 54, 55, 56, 57, 58, 59, 146, 147, 148, 149, 150, 151, 152, 153, 154, 155, 156, 157, 158, 159, 160, 161, 162, 163, 164, 165, 166, 167, 168, 169, 170, 171, 172, 173, 174, 175, 176] rfl (by decide +kernel)
set_option maxRecDepth 20000 in
theorem gX12_body_X12_pair : GoodIn wsX12_body (wsV RX12 242 RX12 yX12_pair wsX12_pair) := goodIn_app (goodIn_of _ (by decide +kernel)) ggX12_body_X12_pair
set_option maxRecDepth 20000 in
theorem ggX12_body_X12_w3 : GoodIn wsX12_body wsX12_w3 := goodIn_r _ [10, 11, 12, 3, 13] rfl (by decide +kernel)
set_option maxRecDepth 20000 in
theorem gX12_body_X12_w3 : GoodIn wsX12_body (va_wsS RX12 139 yX12_w3 wsX12_w3) := goodIn_app (goodIn_of _ (by decide +kernel)) ggX12_body_X12_w3
set_option maxRecDepth 20000 in
theorem ggX12_body_X12_moodClause : GoodIn wsX12_body wsX12_moodClause := goodIn_r _ [63, 18, 19, 20, 3, 21, 22, 23, 24, 25, 26, 27, 28, 29, 30, 31, 32, 33, 34, 35, 36, 37, 38, 39, 40, 41, 42, 43, 44, 45, 46, 47, 48, 49, 50, 51, 11, 12, 13, 52, 53, 54, 55, 56, 57, 58, 59, 146, 147, 148, 149, 150, 151, 152, 153, 154, 155, 156, 157, 158, 159, 160, 161, 162, 163, 164, 165, 166, 167, 168, 169, 170, 171, 172, 173, 174, 175, 176] rfl (by decide +kernel)
set_option maxRecDepth 20000 in
theorem gX12_body_X12_moodClause : GoodIn wsX12_body (wsV RX12 246 RX12 yX12_moodClause wsX12_moodClause) := goodIn_app (goodIn_of _ (by decide +kernel)) ggX12_body_X12_moodClause
set_option maxRecDepth 20000 in
theorem ggX12_body_X12_w2 : GoodIn wsX12_body wsX12_w2 := goodIn_r _ [13] rfl (by decide +kernel)
set_option maxRecDepth 20000 in
theorem gX12_body_X12_w2 : GoodIn wsX12_body (va_wsS RX12 135 yX12_w2 wsX12_w2) := goodIn_app (goodIn_of _ (by decide +kernel)) ggX12_body_X12_w2
set_option maxRecDepth 20000 in
theorem ggX12_body_X12_figure : GoodIn wsX12_body wsX12_figure := goodIn_r _ [21, 22, 23, 24, 25, 26, 3, 27, 28, 29, 30, 31, 32, 33, 34, 35, 36, 37, 38, 39, 40, 41, 42, 43, 44, 45, 46, 47, 48, 49, 50, 51, 146, 147, 148, 149, 150, 151, 152, 153, 154, 155, 156, 157, 158, 159, 160, 161, 162, 163, 164, 165, 166, 167, 168, 169, 170, 171, 172, 173, 174, 175, 176] rfl (by decide +kernel)
set_option maxRecDepth 20000 in
theorem gX12_body_X12_figure : GoodIn wsX12_body (wsV RX12 231 RX12 yX12_figure wsX12_figure) := goodIn_app (goodIn_of _ (by decide +kernel)) ggX12_body_X12_figure
set_option maxRecDepth 20000 in
theorem ggX12_body_X12_lawClause : GoodIn wsX12_body wsX12_lawClause := goodIn_r _ [67, 24, 68, 69, 70, 71, 3, 72, 73, 74, 75, 76, 77, 78, 79, 80, 81, 82, 83, 84, 22, 85, 86, 87, 88, 89, 90, 91, 92, 93, 94, 95, 96, 97, 98, 99, 100, 101, 102, 103, 8, 9, 10, 11, 12, 13, 56, 57, 58, 59, 35, 104, 105, 106, 107, 108, 109, 110, 111, 112, 28, 29, 30, 31, 32, 33, 23, 34, 36, 37, 38, 39, 40, 41, 42, 43, 44, 45, 46, 47, 48, 49, 50, 51, 113, 114, 115, 116, 5, 6, 7, 117, 118, 119, 120, 121, 122, 123, 124, 125, 126, 127, 128, 1, 2, 4, 129, 130, 131, 132, 133, 134, 135, 136, 137, 138, 139, 140, 141, 142, 143, 144, 145, 25, 26, 27, 146, 147, 148, 149, 150, 151, 152, 153, 154, 155, 156, 157, 158, 159, 160, 161, 162, 163, 164, 165, 166, 167, 168, 169, 170, 171, 172, 173, 174, 175, 176] rfl (by decide +kernel)
set_option maxRecDepth 20000 in
theorem gX12_body_X12_lawClause : GoodIn wsX12_body (wsV RX12 249 RX12 yX12_lawClause wsX12_lawClause) := goodIn_app (goodIn_of _ (by decide +kernel)) ggX12_body_X12_lawClause
theorem dX12_body_0 : decode cX12_body 0 = .ok (.iload_n 1, 1) := by decide +kernel
theorem dX12_body_1 : decode cX12_body 1 = .ok (.tableswitch 145 3 9 #[43, 66, 86, 92, 108, 124, 134], 43) := by decide +kernel
theorem dX12_body_44 : decode cX12_body 44 = .ok (.aload_n 0, 1) := by decide +kernel
theorem dX12_body_45 : decode cX12_body 45 = .ok (.iload_n 2, 1) := by decide +kernel
theorem dX12_body_46 : decode cX12_body 46 = .ok (.iconst 0, 1) := by decide +kernel
theorem dX12_body_47 : decode cX12_body 47 = .ok (.iconst 3, 1) := by decide +kernel
theorem dX12_body_48 : decode cX12_body 48 = .ok (.bipush 103, 2) := by decide +kernel
theorem dX12_body_50 : decode cX12_body 50 = .ok (.bipush 114, 2) := by decide +kernel
theorem dX12_body_52 : decode cX12_body 52 = .ok (.bipush 105, 2) := by decide +kernel
theorem dX12_body_54 : decode cX12_body 54 = .ok (.bipush 101, 2) := by decide +kernel
theorem dX12_body_56 : decode cX12_body 56 = .ok (.bipush 102, 2) := by decide +kernel
theorem dX12_body_58 : decode cX12_body 58 = .ok (.invokestatic 147, 3) := by decide +kernel
theorem dX12_body_61 : decode cX12_body 61 = .ok (.bipush 99, 2) := by decide +kernel
theorem dX12_body_63 : decode cX12_body 63 = .ok (.invokevirtual 242, 3) := by decide +kernel
theorem dX12_body_66 : decode cX12_body 66 = .ok (.ireturn, 1) := by decide +kernel
theorem dX12_body_67 : decode cX12_body 67 = .ok (.aload_n 0, 1) := by decide +kernel
theorem dX12_body_68 : decode cX12_body 68 = .ok (.iload_n 2, 1) := by decide +kernel
theorem dX12_body_69 : decode cX12_body 69 = .ok (.iconst 1, 1) := by decide +kernel
theorem dX12_body_70 : decode cX12_body 70 = .ok (.bipush 9, 2) := by decide +kernel
theorem dX12_body_72 : decode cX12_body 72 = .ok (.bipush 97, 2) := by decide +kernel
theorem dX12_body_74 : decode cX12_body 74 = .ok (.bipush 103, 2) := by decide +kernel
theorem dX12_body_76 : decode cX12_body 76 = .ok (.bipush 101, 2) := by decide +kernel
theorem dX12_body_78 : decode cX12_body 78 = .ok (.invokestatic 139, 3) := by decide +kernel
theorem dX12_body_81 : decode cX12_body 81 = .ok (.bipush 99, 2) := by decide +kernel
theorem dX12_body_83 : decode cX12_body 83 = .ok (.invokevirtual 242, 3) := by decide +kernel
theorem dX12_body_86 : decode cX12_body 86 = .ok (.ireturn, 1) := by decide +kernel
theorem dX12_body_87 : decode cX12_body 87 = .ok (.aload_n 0, 1) := by decide +kernel
theorem dX12_body_88 : decode cX12_body 88 = .ok (.iload_n 2, 1) := by decide +kernel
theorem dX12_body_89 : decode cX12_body 89 = .ok (.invokevirtual 246, 3) := by decide +kernel
theorem dX12_body_92 : decode cX12_body 92 = .ok (.ireturn, 1) := by decide +kernel
theorem dX12_body_93 : decode cX12_body 93 = .ok (.aload_n 0, 1) := by decide +kernel
theorem dX12_body_94 : decode cX12_body 94 = .ok (.iload_n 2, 1) := by decide +kernel
theorem dX12_body_95 : decode cX12_body 95 = .ok (.iconst 0, 1) := by decide +kernel
theorem dX12_body_96 : decode cX12_body 96 = .ok (.iconst 4, 1) := by decide +kernel
theorem dX12_body_97 : decode cX12_body 97 = .ok (.bipush 116, 2) := by decide +kernel
theorem dX12_body_99 : decode cX12_body 99 = .ok (.bipush 111, 2) := by decide +kernel
theorem dX12_body_101 : decode cX12_body 101 = .ok (.invokestatic 135, 3) := by decide +kernel
theorem dX12_body_104 : decode cX12_body 104 = .ok (.iconst 5, 1) := by decide +kernel
theorem dX12_body_105 : decode cX12_body 105 = .ok (.invokevirtual 242, 3) := by decide +kernel
theorem dX12_body_108 : decode cX12_body 108 = .ok (.ireturn, 1) := by decide +kernel
theorem dX12_body_109 : decode cX12_body 109 = .ok (.aload_n 0, 1) := by decide +kernel
theorem dX12_body_110 : decode cX12_body 110 = .ok (.iload_n 2, 1) := by decide +kernel
theorem dX12_body_111 : decode cX12_body 111 = .ok (.iconst 0, 1) := by decide +kernel
theorem dX12_body_112 : decode cX12_body 112 = .ok (.iconst 4, 1) := by decide +kernel
theorem dX12_body_113 : decode cX12_body 113 = .ok (.bipush 98, 2) := by decide +kernel
theorem dX12_body_115 : decode cX12_body 115 = .ok (.bipush 121, 2) := by decide +kernel
theorem dX12_body_117 : decode cX12_body 117 = .ok (.invokestatic 135, 3) := by decide +kernel
theorem dX12_body_120 : decode cX12_body 120 = .ok (.iconst 4, 1) := by decide +kernel
theorem dX12_body_121 : decode cX12_body 121 = .ok (.invokevirtual 242, 3) := by decide +kernel
theorem dX12_body_124 : decode cX12_body 124 = .ok (.ireturn, 1) := by decide +kernel
theorem dX12_body_125 : decode cX12_body 125 = .ok (.aload_n 0, 1) := by decide +kernel
theorem dX12_body_126 : decode cX12_body 126 = .ok (.iload_n 2, 1) := by decide +kernel
theorem dX12_body_127 : decode cX12_body 127 = .ok (.iconst 1, 1) := by decide +kernel
theorem dX12_body_128 : decode cX12_body 128 = .ok (.iadd, 1) := by decide +kernel
theorem dX12_body_129 : decode cX12_body 129 = .ok (.iconst 0, 1) := by decide +kernel
theorem dX12_body_130 : decode cX12_body 130 = .ok (.iconst 4, 1) := by decide +kernel
theorem dX12_body_131 : decode cX12_body 131 = .ok (.invokevirtual 231, 3) := by decide +kernel
theorem dX12_body_134 : decode cX12_body 134 = .ok (.ireturn, 1) := by decide +kernel
theorem dX12_body_135 : decode cX12_body 135 = .ok (.aload_n 0, 1) := by decide +kernel
theorem dX12_body_136 : decode cX12_body 136 = .ok (.iload_n 2, 1) := by decide +kernel
theorem dX12_body_137 : decode cX12_body 137 = .ok (.iconst 1, 1) := by decide +kernel
theorem dX12_body_138 : decode cX12_body 138 = .ok (.iadd, 1) := by decide +kernel
theorem dX12_body_139 : decode cX12_body 139 = .ok (.iconst 1, 1) := by decide +kernel
theorem dX12_body_140 : decode cX12_body 140 = .ok (.bipush 60, 2) := by decide +kernel
theorem dX12_body_142 : decode cX12_body 142 = .ok (.invokevirtual 231, 3) := by decide +kernel
theorem dX12_body_145 : decode cX12_body 145 = .ok (.ireturn, 1) := by decide +kernel
theorem dX12_body_146 : decode cX12_body 146 = .ok (.aload_n 0, 1) := by decide +kernel
theorem dX12_body_147 : decode cX12_body 147 = .ok (.iload_n 2, 1) := by decide +kernel
theorem dX12_body_148 : decode cX12_body 148 = .ok (.invokevirtual 249, 3) := by decide +kernel
theorem dX12_body_151 : decode cX12_body 151 = .ok (.ireturn, 1) := by decide +kernel
set_option maxRecDepth 20000 in
theorem ggX12_sortOf_X12_w5 : GoodIn wsX12_sortOf wsX12_w5 := goodIn_r _ [4, 5, 6, 3, 7, 8, 9, 10, 11, 12, 13] rfl (by decide +kernel)
set_option maxRecDepth 20000 in
theorem gX12_sortOf_X12_w5 : GoodIn wsX12_sortOf (va_wsS RX12 147 yX12_w5 wsX12_w5) := goodIn_app (goodIn_of _ (by decide +kernel)) ggX12_sortOf_X12_w5
set_option maxRecDepth 20000 in
theorem ggX12_sortOf_X12_isWord : GoodIn wsX12_sortOf wsX12_isWord := goodIn_r _ [17, 18, 19, 23, 24, 25, 26, 27, 28, 29, 30, 31, 32, 33, 34, 35, 36, 37, 38, 39, 40, 41, 42, 43, 44, 45, 46, 47, 48, 49, 50, 51, 52, 53] rfl (by decide +kernel)
set_option maxRecDepth 20000 in
theorem gX12_sortOf_X12_isWord : GoodIn wsX12_sortOf (wsV RX12 199 RX12 yX12_isWord wsX12_isWord) := goodIn_app (goodIn_of _ (by decide +kernel)) ggX12_sortOf_X12_isWord
set_option maxRecDepth 20000 in
theorem ggX12_sortOf_X12_w6 : GoodIn wsX12_sortOf wsX12_w6 := goodIn_r _ [22, 1, 2, 3, 4, 5, 6, 7, 8, 9, 10, 11, 12, 13] rfl (by decide +kernel)
set_option maxRecDepth 20000 in
theorem gX12_sortOf_X12_w6 : GoodIn wsX12_sortOf (va_wsS RX12 252 yX12_w6 wsX12_w6) := goodIn_app (goodIn_of _ (by decide +kernel)) ggX12_sortOf_X12_w6
set_option maxRecDepth 20000 in
theorem ggX12_sortOf_X12_w4 : GoodIn wsX12_sortOf wsX12_w4 := goodIn_r _ [7, 8, 9, 3, 10, 11, 12, 13] rfl (by decide +kernel)
set_option maxRecDepth 20000 in
theorem gX12_sortOf_X12_w4 : GoodIn wsX12_sortOf (va_wsS RX12 143 yX12_w4 wsX12_w4) := goodIn_app (goodIn_of _ (by decide +kernel)) ggX12_sortOf_X12_w4
set_option maxRecDepth 20000 in
theorem ggX12_sortOf_X12_w3 : GoodIn wsX12_sortOf wsX12_w3 := goodIn_r _ [10, 11, 12, 3, 13] rfl (by decide +kernel)
set_option maxRecDepth 20000 in
theorem gX12_sortOf_X12_w3 : GoodIn wsX12_sortOf (va_wsS RX12 139 yX12_w3 wsX12_w3) := goodIn_app (goodIn_of _ (by decide +kernel)) ggX12_sortOf_X12_w3
theorem dX12_sortOf_0 : decode cX12_sortOf 0 = .ok (.aload_n 0, 1) := by decide +kernel
theorem dX12_sortOf_1 : decode cX12_sortOf 1 = .ok (.bipush 101, 2) := by decide +kernel
theorem dX12_sortOf_3 : decode cX12_sortOf 3 = .ok (.bipush 97, 2) := by decide +kernel
theorem dX12_sortOf_5 : decode cX12_sortOf 5 = .ok (.bipush 115, 2) := by decide +kernel
theorem dX12_sortOf_7 : decode cX12_sortOf 7 = .ok (.bipush 101, 2) := by decide +kernel
theorem dX12_sortOf_9 : decode cX12_sortOf 9 = .ok (.bipush 115, 2) := by decide +kernel
theorem dX12_sortOf_11 : decode cX12_sortOf 11 = .ok (.invokestatic 147, 3) := by decide +kernel
theorem dX12_sortOf_14 : decode cX12_sortOf 14 = .ok (.invokevirtual 199, 3) := by decide +kernel
theorem dX12_sortOf_17 : decode cX12_sortOf 17 = .ok (.ifCond .eq 5, 3) := by decide +kernel
theorem dX12_sortOf_20 : decode cX12_sortOf 20 = .ok (.iconst 0, 1) := by decide +kernel
theorem dX12_sortOf_21 : decode cX12_sortOf 21 = .ok (.ireturn, 1) := by decide +kernel
theorem dX12_sortOf_22 : decode cX12_sortOf 22 = .ok (.aload_n 0, 1) := by decide +kernel
theorem dX12_sortOf_23 : decode cX12_sortOf 23 = .ok (.bipush 108, 2) := by decide +kernel
theorem dX12_sortOf_25 : decode cX12_sortOf 25 = .ok (.bipush 97, 2) := by decide +kernel
theorem dX12_sortOf_27 : decode cX12_sortOf 27 = .ok (.bipush 117, 2) := by decide +kernel
theorem dX12_sortOf_29 : decode cX12_sortOf 29 = .ok (.bipush 103, 2) := by decide +kernel
theorem dX12_sortOf_31 : decode cX12_sortOf 31 = .ok (.bipush 104, 2) := by decide +kernel
theorem dX12_sortOf_33 : decode cX12_sortOf 33 = .ok (.bipush 115, 2) := by decide +kernel
theorem dX12_sortOf_35 : decode cX12_sortOf 35 = .ok (.invokestatic 252, 3) := by decide +kernel
theorem dX12_sortOf_38 : decode cX12_sortOf 38 = .ok (.invokevirtual 199, 3) := by decide +kernel
theorem dX12_sortOf_41 : decode cX12_sortOf 41 = .ok (.ifCond .eq 5, 3) := by decide +kernel
theorem dX12_sortOf_44 : decode cX12_sortOf 44 = .ok (.iconst 1, 1) := by decide +kernel
theorem dX12_sortOf_45 : decode cX12_sortOf 45 = .ok (.ireturn, 1) := by decide +kernel
theorem dX12_sortOf_46 : decode cX12_sortOf 46 = .ok (.aload_n 0, 1) := by decide +kernel
theorem dX12_sortOf_47 : decode cX12_sortOf 47 = .ok (.bipush 103, 2) := by decide +kernel
theorem dX12_sortOf_49 : decode cX12_sortOf 49 = .ok (.bipush 114, 2) := by decide +kernel
theorem dX12_sortOf_51 : decode cX12_sortOf 51 = .ok (.bipush 111, 2) := by decide +kernel
theorem dX12_sortOf_53 : decode cX12_sortOf 53 = .ok (.bipush 119, 2) := by decide +kernel
theorem dX12_sortOf_55 : decode cX12_sortOf 55 = .ok (.bipush 115, 2) := by decide +kernel
theorem dX12_sortOf_57 : decode cX12_sortOf 57 = .ok (.invokestatic 147, 3) := by decide +kernel
theorem dX12_sortOf_60 : decode cX12_sortOf 60 = .ok (.invokevirtual 199, 3) := by decide +kernel
theorem dX12_sortOf_63 : decode cX12_sortOf 63 = .ok (.ifCond .eq 5, 3) := by decide +kernel
theorem dX12_sortOf_66 : decode cX12_sortOf 66 = .ok (.iconst 2, 1) := by decide +kernel
theorem dX12_sortOf_67 : decode cX12_sortOf 67 = .ok (.ireturn, 1) := by decide +kernel
theorem dX12_sortOf_68 : decode cX12_sortOf 68 = .ok (.aload_n 0, 1) := by decide +kernel
theorem dX12_sortOf_69 : decode cX12_sortOf 69 = .ok (.bipush 104, 2) := by decide +kernel
theorem dX12_sortOf_71 : decode cX12_sortOf 71 = .ok (.bipush 111, 2) := by decide +kernel
theorem dX12_sortOf_73 : decode cX12_sortOf 73 = .ok (.bipush 117, 2) := by decide +kernel
theorem dX12_sortOf_75 : decode cX12_sortOf 75 = .ok (.bipush 115, 2) := by decide +kernel
theorem dX12_sortOf_77 : decode cX12_sortOf 77 = .ok (.bipush 101, 2) := by decide +kernel
theorem dX12_sortOf_79 : decode cX12_sortOf 79 = .ok (.invokestatic 147, 3) := by decide +kernel
theorem dX12_sortOf_82 : decode cX12_sortOf 82 = .ok (.invokevirtual 199, 3) := by decide +kernel
theorem dX12_sortOf_85 : decode cX12_sortOf 85 = .ok (.ifCond .eq 5, 3) := by decide +kernel
theorem dX12_sortOf_88 : decode cX12_sortOf 88 = .ok (.iconst 3, 1) := by decide +kernel
theorem dX12_sortOf_89 : decode cX12_sortOf 89 = .ok (.ireturn, 1) := by decide +kernel
theorem dX12_sortOf_90 : decode cX12_sortOf 90 = .ok (.aload_n 0, 1) := by decide +kernel
theorem dX12_sortOf_91 : decode cX12_sortOf 91 = .ok (.bipush 99, 2) := by decide +kernel
theorem dX12_sortOf_93 : decode cX12_sortOf 93 = .ok (.bipush 108, 2) := by decide +kernel
theorem dX12_sortOf_95 : decode cX12_sortOf 95 = .ok (.bipush 111, 2) := by decide +kernel
theorem dX12_sortOf_97 : decode cX12_sortOf 97 = .ok (.bipush 119, 2) := by decide +kernel
theorem dX12_sortOf_99 : decode cX12_sortOf 99 = .ok (.bipush 110, 2) := by decide +kernel
theorem dX12_sortOf_101 : decode cX12_sortOf 101 = .ok (.invokestatic 147, 3) := by decide +kernel
theorem dX12_sortOf_104 : decode cX12_sortOf 104 = .ok (.invokevirtual 199, 3) := by decide +kernel
theorem dX12_sortOf_107 : decode cX12_sortOf 107 = .ok (.ifCond .eq 5, 3) := by decide +kernel
theorem dX12_sortOf_110 : decode cX12_sortOf 110 = .ok (.iconst 4, 1) := by decide +kernel
theorem dX12_sortOf_111 : decode cX12_sortOf 111 = .ok (.ireturn, 1) := by decide +kernel
theorem dX12_sortOf_112 : decode cX12_sortOf 112 = .ok (.aload_n 0, 1) := by decide +kernel
theorem dX12_sortOf_113 : decode cX12_sortOf 113 = .ok (.bipush 109, 2) := by decide +kernel
theorem dX12_sortOf_115 : decode cX12_sortOf 115 = .ok (.bipush 111, 2) := by decide +kernel
theorem dX12_sortOf_117 : decode cX12_sortOf 117 = .ok (.bipush 111, 2) := by decide +kernel
theorem dX12_sortOf_119 : decode cX12_sortOf 119 = .ok (.bipush 100, 2) := by decide +kernel
theorem dX12_sortOf_121 : decode cX12_sortOf 121 = .ok (.invokestatic 143, 3) := by decide +kernel
theorem dX12_sortOf_124 : decode cX12_sortOf 124 = .ok (.invokevirtual 199, 3) := by decide +kernel
theorem dX12_sortOf_127 : decode cX12_sortOf 127 = .ok (.ifCond .eq 5, 3) := by decide +kernel
theorem dX12_sortOf_130 : decode cX12_sortOf 130 = .ok (.iconst 5, 1) := by decide +kernel
theorem dX12_sortOf_131 : decode cX12_sortOf 131 = .ok (.ireturn, 1) := by decide +kernel
theorem dX12_sortOf_132 : decode cX12_sortOf 132 = .ok (.aload_n 0, 1) := by decide +kernel
theorem dX12_sortOf_133 : decode cX12_sortOf 133 = .ok (.bipush 115, 2) := by decide +kernel
theorem dX12_sortOf_135 : decode cX12_sortOf 135 = .ok (.bipush 101, 2) := by decide +kernel
theorem dX12_sortOf_137 : decode cX12_sortOf 137 = .ok (.bipush 110, 2) := by decide +kernel
theorem dX12_sortOf_139 : decode cX12_sortOf 139 = .ok (.bipush 100, 2) := by decide +kernel
theorem dX12_sortOf_141 : decode cX12_sortOf 141 = .ok (.invokestatic 143, 3) := by decide +kernel
theorem dX12_sortOf_144 : decode cX12_sortOf 144 = .ok (.invokevirtual 199, 3) := by decide +kernel
theorem dX12_sortOf_147 : decode cX12_sortOf 147 = .ok (.ifCond .eq 6, 3) := by decide +kernel
theorem dX12_sortOf_150 : decode cX12_sortOf 150 = .ok (.bipush 6, 2) := by decide +kernel
theorem dX12_sortOf_152 : decode cX12_sortOf 152 = .ok (.ireturn, 1) := by decide +kernel
theorem dX12_sortOf_153 : decode cX12_sortOf 153 = .ok (.aload_n 0, 1) := by decide +kernel
theorem dX12_sortOf_154 : decode cX12_sortOf 154 = .ok (.bipush 102, 2) := by decide +kernel
theorem dX12_sortOf_156 : decode cX12_sortOf 156 = .ok (.bipush 97, 2) := by decide +kernel
theorem dX12_sortOf_158 : decode cX12_sortOf 158 = .ok (.bipush 108, 2) := by decide +kernel
theorem dX12_sortOf_160 : decode cX12_sortOf 160 = .ok (.bipush 108, 2) := by decide +kernel
theorem dX12_sortOf_162 : decode cX12_sortOf 162 = .ok (.invokestatic 143, 3) := by decide +kernel
theorem dX12_sortOf_165 : decode cX12_sortOf 165 = .ok (.invokevirtual 199, 3) := by decide +kernel
theorem dX12_sortOf_168 : decode cX12_sortOf 168 = .ok (.ifCond .eq 6, 3) := by decide +kernel
theorem dX12_sortOf_171 : decode cX12_sortOf 171 = .ok (.bipush 7, 2) := by decide +kernel
theorem dX12_sortOf_173 : decode cX12_sortOf 173 = .ok (.ireturn, 1) := by decide +kernel
theorem dX12_sortOf_174 : decode cX12_sortOf 174 = .ok (.aload_n 0, 1) := by decide +kernel
theorem dX12_sortOf_175 : decode cX12_sortOf 175 = .ok (.bipush 114, 2) := by decide +kernel
theorem dX12_sortOf_177 : decode cX12_sortOf 177 = .ok (.bipush 101, 2) := by decide +kernel
theorem dX12_sortOf_179 : decode cX12_sortOf 179 = .ok (.bipush 115, 2) := by decide +kernel
theorem dX12_sortOf_181 : decode cX12_sortOf 181 = .ok (.bipush 116, 2) := by decide +kernel
theorem dX12_sortOf_183 : decode cX12_sortOf 183 = .ok (.invokestatic 143, 3) := by decide +kernel
theorem dX12_sortOf_186 : decode cX12_sortOf 186 = .ok (.invokevirtual 199, 3) := by decide +kernel
theorem dX12_sortOf_189 : decode cX12_sortOf 189 = .ok (.ifCond .eq 8, 3) := by decide +kernel
theorem dX12_sortOf_192 : decode cX12_sortOf 192 = .ok (.bipush 8, 2) := by decide +kernel
theorem dX12_sortOf_194 : decode cX12_sortOf 194 = .ok (.goto 25, 3) := by decide +kernel
theorem dX12_sortOf_197 : decode cX12_sortOf 197 = .ok (.aload_n 0, 1) := by decide +kernel
theorem dX12_sortOf_198 : decode cX12_sortOf 198 = .ok (.bipush 100, 2) := by decide +kernel
theorem dX12_sortOf_200 : decode cX12_sortOf 200 = .ok (.bipush 97, 2) := by decide +kernel
theorem dX12_sortOf_202 : decode cX12_sortOf 202 = .ok (.bipush 121, 2) := by decide +kernel
theorem dX12_sortOf_204 : decode cX12_sortOf 204 = .ok (.invokestatic 139, 3) := by decide +kernel
theorem dX12_sortOf_207 : decode cX12_sortOf 207 = .ok (.invokevirtual 199, 3) := by decide +kernel
theorem dX12_sortOf_210 : decode cX12_sortOf 210 = .ok (.ifCond .eq 8, 3) := by decide +kernel
theorem dX12_sortOf_213 : decode cX12_sortOf 213 = .ok (.bipush 9, 2) := by decide +kernel
theorem dX12_sortOf_215 : decode cX12_sortOf 215 = .ok (.goto 4, 3) := by decide +kernel
theorem dX12_sortOf_218 : decode cX12_sortOf 218 = .ok (.iconst (-1), 1) := by decide +kernel
theorem dX12_sortOf_219 : decode cX12_sortOf 219 = .ok (.ireturn, 1) := by decide +kernel
set_option maxRecDepth 20000 in
theorem ggX12_clause_X12_sortOf : GoodIn wsX12_clause wsX12_sortOf := goodIn_r _ [10, 11, 12, 9, 13, 14, 15, 16, 17, 18, 19, 20, 21, 22, 23, 24, 25, 26, 5, 27, 28, 29, 30, 161, 162, 163, 164, 165, 166, 167, 168, 169, 170, 171, 172, 173, 174, 175, 176, 177, 178, 179, 180, 181, 182, 183, 184, 185, 186, 187, 188, 189, 190, 191] rfl (by decide +kernel)
set_option maxRecDepth 20000 in
theorem gX12_clause_X12_sortOf : GoodIn wsX12_clause (wsV RX12 256 RX12 yX12_sortOf wsX12_sortOf) := goodIn_app (goodIn_of _ (by decide +kernel)) ggX12_clause_X12_sortOf
set_option maxRecDepth 20000 in
theorem ggX12_clause_X12_has : GoodIn wsX12_clause wsX12_has := goodIn_r _ [33] rfl (by decide +kernel)
set_option maxRecDepth 20000 in
theorem gX12_clause_X12_has : GoodIn wsX12_clause (va_wsS RX12 262 yX12_has wsX12_has) := goodIn_app (goodIn_of _ (by decide +kernel)) ggX12_clause_X12_has
set_option maxRecDepth 20000 in
theorem ggX12_clause_X12_nextToken : GoodIn wsX12_clause wsX12_nextToken := goodIn_r _ [37, 38, 39, 5, 40, 41, 27, 42, 43, 44, 45, 9, 46, 47, 48, 49, 50, 51, 52, 53, 54, 55, 56, 57, 161, 162, 163, 164, 165, 166, 167, 168, 169, 170, 171, 172, 173, 174, 175, 176, 177, 178, 179, 180, 181, 182, 183, 184, 185, 186, 187, 188, 189, 190, 191] rfl (by decide +kernel)
set_option maxRecDepth 20000 in
theorem gX12_clause_X12_nextToken : GoodIn wsX12_clause (wsV RX12 184 RX12 yX12_nextToken wsX12_nextToken) := goodIn_app (goodIn_of _ (by decide +kernel)) ggX12_clause_X12_nextToken
set_option maxRecDepth 20000 in
theorem ggX12_clause_X12_body : GoodIn wsX12_clause wsX12_body := goodIn_r _ [61, 11, 12, 9, 13, 14, 15, 16, 17, 18, 19, 20, 21, 22, 62, 63, 64, 65, 66, 67, 68, 69, 5, 40, 2, 70, 71, 72, 34, 35, 36, 37, 38, 39, 41, 27, 42, 43, 44, 45, 46, 47, 48, 49, 50, 51, 52, 53, 54, 55, 56, 57, 73, 74, 75, 76, 23, 24, 25, 26, 77, 78, 79, 80, 81, 82, 83, 84, 85, 86, 87, 88, 89, 90, 91, 92, 93, 94, 95, 96, 97, 98, 99, 100, 101, 102, 103, 104, 105, 106, 107, 108, 109, 110, 111, 112, 113, 114, 115, 116, 117, 118, 119, 120, 121, 122, 123, 124, 125, 126, 127, 128, 3, 129, 130, 131, 132, 133, 134, 135, 136, 137, 138, 139, 140, 141, 142, 143, 144, 145, 146, 147, 148, 149, 150, 151, 152, 4, 153, 154, 155, 156, 157, 158, 159, 160, 161, 162, 163, 164, 165, 166, 167, 168, 169, 170, 171, 172, 173, 174, 175, 176, 177, 178, 179, 180, 181, 182, 183, 184, 185, 186, 187, 188, 189, 190, 191] rfl (by decide +kernel)
set_option maxRecDepth 20000 in
theorem gX12_clause_X12_body : GoodIn wsX12_clause (wsV RX12 266 RX12 yX12_body wsX12_body) := goodIn_app (goodIn_of _ (by decide +kernel)) ggX12_clause_X12_body
theorem dX12_clause_0 : decode cX12_clause 0 = .ok (.aload_n 0, 1) := by decide +kernel
theorem dX12_clause_1 : decode cX12_clause 1 = .ok (.invokevirtual 256, 3) := by decide +kernel
theorem dX12_clause_4 : decode cX12_clause 4 = .ok (.istore_n 1, 1) := by decide +kernel
theorem dX12_clause_5 : decode cX12_clause 5 = .ok (.iload_n 1, 1) := by decide +kernel
theorem dX12_clause_6 : decode cX12_clause 6 = .ok (.ifCond .ge 5, 3) := by decide +kernel
theorem dX12_clause_9 : decode cX12_clause 9 = .ok (.iconst 1, 1) := by decide +kernel
theorem dX12_clause_10 : decode cX12_clause 10 = .ok (.ireturn, 1) := by decide +kernel
theorem dX12_clause_11 : decode cX12_clause 11 = .ok (.iload_n 1, 1) := by decide +kernel
theorem dX12_clause_12 : decode cX12_clause 12 = .ok (.iconst 2, 1) := by decide +kernel
theorem dX12_clause_13 : decode cX12_clause 13 = .ok (.if_icmp .gt 16, 3) := by decide +kernel
theorem dX12_clause_16 : decode cX12_clause 16 = .ok (.aload_n 0, 1) := by decide +kernel
theorem dX12_clause_17 : decode cX12_clause 17 = .ok (.getfield 259, 3) := by decide +kernel
theorem dX12_clause_20 : decode cX12_clause 20 = .ok (.iload_n 1, 1) := by decide +kernel
theorem dX12_clause_21 : decode cX12_clause 21 = .ok (.invokestatic 262, 3) := by decide +kernel
theorem dX12_clause_24 : decode cX12_clause 24 = .ok (.ifCond .eq 5, 3) := by decide +kernel
theorem dX12_clause_27 : decode cX12_clause 27 = .ok (.iconst 4, 1) := by decide +kernel
theorem dX12_clause_28 : decode cX12_clause 28 = .ok (.ireturn, 1) := by decide +kernel
theorem dX12_clause_29 : decode cX12_clause 29 = .ok (.aload_n 0, 1) := by decide +kernel
theorem dX12_clause_30 : decode cX12_clause 30 = .ok (.getfield 16, 3) := by decide +kernel
theorem dX12_clause_33 : decode cX12_clause 33 = .ok (.aload_n 0, 1) := by decide +kernel
theorem dX12_clause_34 : decode cX12_clause 34 = .ok (.getfield 151, 3) := by decide +kernel
theorem dX12_clause_37 : decode cX12_clause 37 = .ok (.iaload, 1) := by decide +kernel
theorem dX12_clause_38 : decode cX12_clause 38 = .ok (.istore_n 2, 1) := by decide +kernel
theorem dX12_clause_39 : decode cX12_clause 39 = .ok (.iload_n 2, 1) := by decide +kernel
theorem dX12_clause_40 : decode cX12_clause 40 = .ok (.bipush 24, 2) := by decide +kernel
theorem dX12_clause_42 : decode cX12_clause 42 = .ok (.if_icmp .ne 6, 3) := by decide +kernel
theorem dX12_clause_45 : decode cX12_clause 45 = .ok (.bipush 6, 2) := by decide +kernel
theorem dX12_clause_47 : decode cX12_clause 47 = .ok (.ireturn, 1) := by decide +kernel
theorem dX12_clause_48 : decode cX12_clause 48 = .ok (.iload_n 1, 1) := by decide +kernel
theorem dX12_clause_49 : decode cX12_clause 49 = .ok (.iconst 2, 1) := by decide +kernel
theorem dX12_clause_50 : decode cX12_clause 50 = .ok (.if_icmp .gt 15, 3) := by decide +kernel
theorem dX12_clause_53 : decode cX12_clause 53 = .ok (.aload_n 0, 1) := by decide +kernel
theorem dX12_clause_54 : decode cX12_clause 54 = .ok (.dup, 1) := by decide +kernel
theorem dX12_clause_55 : decode cX12_clause 55 = .ok (.getfield 259, 3) := by decide +kernel
theorem dX12_clause_58 : decode cX12_clause 58 = .ok (.iconst 1, 1) := by decide +kernel
theorem dX12_clause_59 : decode cX12_clause 59 = .ok (.iload_n 1, 1) := by decide +kernel
theorem dX12_clause_60 : decode cX12_clause 60 = .ok (.ishl, 1) := by decide +kernel
theorem dX12_clause_61 : decode cX12_clause 61 = .ok (.ior, 1) := by decide +kernel
theorem dX12_clause_62 : decode cX12_clause 62 = .ok (.putfield 259, 3) := by decide +kernel
theorem dX12_clause_65 : decode cX12_clause 65 = .ok (.aload_n 0, 1) := by decide +kernel
theorem dX12_clause_66 : decode cX12_clause 66 = .ok (.iload_n 1, 1) := by decide +kernel
theorem dX12_clause_67 : decode cX12_clause 67 = .ok (.putfield 161, 3) := by decide +kernel
theorem dX12_clause_70 : decode cX12_clause 70 = .ok (.aload_n 0, 1) := by decide +kernel
theorem dX12_clause_71 : decode cX12_clause 71 = .ok (.invokevirtual 184, 3) := by decide +kernel
theorem dX12_clause_74 : decode cX12_clause 74 = .ok (.aload_n 0, 1) := by decide +kernel
theorem dX12_clause_75 : decode cX12_clause 75 = .ok (.getfield 151, 3) := by decide +kernel
theorem dX12_clause_78 : decode cX12_clause 78 = .ok (.iconst 1, 1) := by decide +kernel
theorem dX12_clause_79 : decode cX12_clause 79 = .ok (.iadd, 1) := by decide +kernel
theorem dX12_clause_80 : decode cX12_clause 80 = .ok (.iconst 4, 1) := by decide +kernel
theorem dX12_clause_81 : decode cX12_clause 81 = .ok (.iload_n 2, 1) := by decide +kernel
theorem dX12_clause_82 : decode cX12_clause 82 = .ok (.imul, 1) := by decide +kernel
theorem dX12_clause_83 : decode cX12_clause 83 = .ok (.iadd, 1) := by decide +kernel
theorem dX12_clause_84 : decode cX12_clause 84 = .ok (.istore_n 3, 1) := by decide +kernel
theorem dX12_clause_85 : decode cX12_clause 85 = .ok (.aload_n 0, 1) := by decide +kernel
theorem dX12_clause_86 : decode cX12_clause 86 = .ok (.getfield 16, 3) := by decide +kernel
theorem dX12_clause_89 : decode cX12_clause 89 = .ok (.iload_n 3, 1) := by decide +kernel
theorem dX12_clause_90 : decode cX12_clause 90 = .ok (.iload_n 1, 1) := by decide +kernel
theorem dX12_clause_91 : decode cX12_clause 91 = .ok (.iastore, 1) := by decide +kernel
theorem dX12_clause_92 : decode cX12_clause 92 = .ok (.aload_n 0, 1) := by decide +kernel
theorem dX12_clause_93 : decode cX12_clause 93 = .ok (.iload_n 1, 1) := by decide +kernel
theorem dX12_clause_94 : decode cX12_clause 94 = .ok (.iload_n 3, 1) := by decide +kernel
theorem dX12_clause_95 : decode cX12_clause 95 = .ok (.invokevirtual 266, 3) := by decide +kernel
theorem dX12_clause_98 : decode cX12_clause 98 = .ok (.istore 4, 2) := by decide +kernel
theorem dX12_clause_100 : decode cX12_clause 100 = .ok (.iload 4, 2) := by decide +kernel
theorem dX12_clause_102 : decode cX12_clause 102 = .ok (.ifCond .eq 6, 3) := by decide +kernel
theorem dX12_clause_105 : decode cX12_clause 105 = .ok (.iload 4, 2) := by decide +kernel
theorem dX12_clause_107 : decode cX12_clause 107 = .ok (.ireturn, 1) := by decide +kernel
theorem dX12_clause_108 : decode cX12_clause 108 = .ok (.aload_n 0, 1) := by decide +kernel
theorem dX12_clause_109 : decode cX12_clause 109 = .ok (.getfield 16, 3) := by decide +kernel
theorem dX12_clause_112 : decode cX12_clause 112 = .ok (.aload_n 0, 1) := by decide +kernel
theorem dX12_clause_113 : decode cX12_clause 113 = .ok (.getfield 151, 3) := by decide +kernel
theorem dX12_clause_116 : decode cX12_clause 116 = .ok (.dup2, 1) := by decide +kernel
theorem dX12_clause_117 : decode cX12_clause 117 = .ok (.iaload, 1) := by decide +kernel
theorem dX12_clause_118 : decode cX12_clause 118 = .ok (.iconst 1, 1) := by decide +kernel
theorem dX12_clause_119 : decode cX12_clause 119 = .ok (.iadd, 1) := by decide +kernel
theorem dX12_clause_120 : decode cX12_clause 120 = .ok (.iastore, 1) := by decide +kernel
theorem dX12_clause_121 : decode cX12_clause 121 = .ok (.aload_n 0, 1) := by decide +kernel
theorem dX12_clause_122 : decode cX12_clause 122 = .ok (.getfield 113, 3) := by decide +kernel
theorem dX12_clause_125 : decode cX12_clause 125 = .ok (.bipush 59, 2) := by decide +kernel
theorem dX12_clause_127 : decode cX12_clause 127 = .ok (.if_icmp .eq 5, 3) := by decide +kernel
theorem dX12_clause_130 : decode cX12_clause 130 = .ok (.iconst 1, 1) := by decide +kernel
theorem dX12_clause_131 : decode cX12_clause 131 = .ok (.ireturn, 1) := by decide +kernel
theorem dX12_clause_132 : decode cX12_clause 132 = .ok (.aload_n 0, 1) := by decide +kernel
theorem dX12_clause_133 : decode cX12_clause 133 = .ok (.invokevirtual 184, 3) := by decide +kernel
theorem dX12_clause_136 : decode cX12_clause 136 = .ok (.iconst 0, 1) := by decide +kernel
theorem dX12_clause_137 : decode cX12_clause 137 = .ok (.ireturn, 1) := by decide +kernel
set_option maxRecDepth 20000 in
theorem ggX12_readText_X12_nextToken : GoodIn wsX12_readText wsX12_nextToken := goodIn_r _ [12, 6, 13, 7, 14, 15, 16, 17, 18, 19, 20, 11, 21, 22, 23, 24, 25, 26, 27, 28, 29, 30, 31, 32, 166, 167, 168, 169, 170, 171, 172, 173, 174, 175, 176, 177, 178, 179, 180, 181, 182, 183, 184, 185, 186, 187, 188, 189, 190, 191, 192, 193, 194, 195, 196] rfl (by decide +kernel)
set_option maxRecDepth 20000 in
theorem gX12_readText_X12_nextToken : GoodIn wsX12_readText (wsV RX12 184 RX12 yX12_nextToken wsX12_nextToken) := goodIn_app (goodIn_of _ (by decide +kernel)) ggX12_readText_X12_nextToken
set_option maxRecDepth 20000 in
theorem ggX12_readText_X12_clause : GoodIn wsX12_readText wsX12_clause := goodIn_r _ [36, 5, 3, 2, 37, 7, 38, 39, 40, 11, 41, 42, 43, 44, 45, 46, 47, 48, 49, 50, 51, 52, 53, 54, 55, 56, 57, 16, 58, 59, 60, 61, 62, 63, 8, 9, 10, 12, 6, 13, 14, 15, 17, 18, 19, 20, 21, 22, 23, 24, 25, 26, 27, 28, 29, 30, 31, 32, 64, 65, 66, 67, 68, 69, 70, 71, 72, 73, 74, 75, 76, 77, 78, 79, 80, 81, 82, 83, 84, 85, 86, 87, 88, 89, 90, 4, 91, 92, 93, 94, 95, 96, 97, 98, 99, 100, 101, 102, 103, 104, 105, 106, 107, 108, 109, 110, 111, 112, 113, 114, 115, 116, 117, 118, 119, 120, 121, 122, 123, 124, 125, 126, 127, 128, 129, 130, 131, 132, 133, 134, 135, 136, 137, 138, 139, 140, 141, 142, 143, 144, 145, 146, 147, 148, 149, 150, 151, 152, 153, 154, 155, 156, 157, 158, 159, 160, 161, 162, 163, 164, 165, 166, 167, 168, 169, 170, 171, 172, 173, 174, 175, 176, 177, 178, 179, 180, 181, 182, 183, 184, 185, 186, 187, 188, 189, 190, 191, 192, 193, 194, 195, 196] rfl (by decide +kernel)
set_option maxRecDepth 20000 in
theorem gX12_readText_X12_clause : GoodIn wsX12_readText (wsV RX12 269 RX12 yX12_clause wsX12_clause) := goodIn_app (goodIn_of _ (by decide +kernel)) ggX12_readText_X12_clause
theorem dX12_readText_0 : decode cX12_readText 0 = .ok (.aload_n 0, 1) := by decide +kernel
theorem dX12_readText_1 : decode cX12_readText 1 = .ok (.sipush 705, 3) := by decide +kernel
theorem dX12_readText_4 : decode cX12_readText 4 = .ok (.aload_n 0, 1) := by decide +kernel
theorem dX12_readText_5 : decode cX12_readText 5 = .ok (.getfield 7, 3) := by decide +kernel
theorem dX12_readText_8 : decode cX12_readText 8 = .ok (.iconst 2, 1) := by decide +kernel
theorem dX12_readText_9 : decode cX12_readText 9 = .ok (.iaload, 1) := by decide +kernel
theorem dX12_readText_10 : decode cX12_readText 10 = .ok (.imul, 1) := by decide +kernel
theorem dX12_readText_11 : decode cX12_readText 11 = .ok (.putfield 151, 3) := by decide +kernel
theorem dX12_readText_14 : decode cX12_readText 14 = .ok (.aload_n 0, 1) := by decide +kernel
theorem dX12_readText_15 : decode cX12_readText 15 = .ok (.getfield 16, 3) := by decide +kernel
theorem dX12_readText_18 : decode cX12_readText 18 = .ok (.aload_n 0, 1) := by decide +kernel
theorem dX12_readText_19 : decode cX12_readText 19 = .ok (.getfield 151, 3) := by decide +kernel
theorem dX12_readText_22 : decode cX12_readText 22 = .ok (.iconst 0, 1) := by decide +kernel
theorem dX12_readText_23 : decode cX12_readText 23 = .ok (.iastore, 1) := by decide +kernel
theorem dX12_readText_24 : decode cX12_readText 24 = .ok (.aload_n 0, 1) := by decide +kernel
theorem dX12_readText_25 : decode cX12_readText 25 = .ok (.iconst 0, 1) := by decide +kernel
theorem dX12_readText_26 : decode cX12_readText 26 = .ok (.putfield 154, 3) := by decide +kernel
theorem dX12_readText_29 : decode cX12_readText 29 = .ok (.aload_n 0, 1) := by decide +kernel
theorem dX12_readText_30 : decode cX12_readText 30 = .ok (.iconst 0, 1) := by decide +kernel
theorem dX12_readText_31 : decode cX12_readText 31 = .ok (.putfield 259, 3) := by decide +kernel
theorem dX12_readText_34 : decode cX12_readText 34 = .ok (.aload_n 0, 1) := by decide +kernel
theorem dX12_readText_35 : decode cX12_readText 35 = .ok (.iconst 0, 1) := by decide +kernel
theorem dX12_readText_36 : decode cX12_readText 36 = .ok (.putfield 103, 3) := by decide +kernel
theorem dX12_readText_39 : decode cX12_readText 39 = .ok (.aload_n 0, 1) := by decide +kernel
theorem dX12_readText_40 : decode cX12_readText 40 = .ok (.invokevirtual 184, 3) := by decide +kernel
theorem dX12_readText_43 : decode cX12_readText 43 = .ok (.aload_n 0, 1) := by decide +kernel
theorem dX12_readText_44 : decode cX12_readText 44 = .ok (.getfield 113, 3) := by decide +kernel
theorem dX12_readText_47 : decode cX12_readText 47 = .ok (.ifCond .eq 17, 3) := by decide +kernel
theorem dX12_readText_50 : decode cX12_readText 50 = .ok (.aload_n 0, 1) := by decide +kernel
theorem dX12_readText_51 : decode cX12_readText 51 = .ok (.invokevirtual 269, 3) := by decide +kernel
theorem dX12_readText_54 : decode cX12_readText 54 = .ok (.istore_n 1, 1) := by decide +kernel
theorem dX12_readText_55 : decode cX12_readText 55 = .ok (.iload_n 1, 1) := by decide +kernel
theorem dX12_readText_56 : decode cX12_readText 56 = .ok (.ifCond .eq 5, 3) := by decide +kernel
theorem dX12_readText_59 : decode cX12_readText 59 = .ok (.iload_n 1, 1) := by decide +kernel
theorem dX12_readText_60 : decode cX12_readText 60 = .ok (.ireturn, 1) := by decide +kernel
theorem dX12_readText_61 : decode cX12_readText 61 = .ok (.goto (-18), 3) := by decide +kernel
theorem dX12_readText_64 : decode cX12_readText 64 = .ok (.iconst 0, 1) := by decide +kernel
theorem dX12_readText_65 : decode cX12_readText 65 = .ok (.ireturn, 1) := by decide +kernel
set_option maxRecDepth 20000 in
theorem ggX12_text_X12_readText : GoodIn wsX12_text wsX12_readText := goodIn_r _ [10, 1, 11, 12, 13, 14, 15, 16, 17, 18, 19, 9, 20, 3, 21, 22, 23, 24, 25, 26, 27, 28, 5, 29, 30, 31, 32, 33, 34, 35, 36, 37, 38, 39, 40, 41, 42, 43, 44, 45, 46, 47, 48, 49, 50, 51, 52, 53, 54, 55, 56, 57, 58, 59, 60, 61, 62, 63, 64, 65, 66, 67, 68, 69, 70, 71, 72, 73, 74, 75, 76, 77, 78, 79, 80, 81, 82, 83, 84, 85, 86, 87, 88, 89, 90, 91, 92, 93, 94, 95, 96, 97, 98, 99, 100, 101, 102, 103, 104, 105, 106, 107, 108, 109, 110, 111, 112, 113, 114, 115, 116, 117, 118, 119, 120, 121, 122, 123, 124, 125, 126, 127, 128, 129, 130, 131, 132, 133, 134, 135, 136, 137, 138, 139, 140, 141, 142, 143, 144, 145, 146, 147, 148, 149, 150, 151, 152, 153, 154, 155, 156, 157, 158, 159, 160, 161, 162, 163, 164, 165, 166, 167, 168, 169, 170, 171, 172, 173, 174, 175, 176, 177, 178, 179, 180, 181, 182, 183, 184, 185, 186, 187, 188, 189, 190, 191, 192, 193, 194, 195, 196, 197, 198, 199, 200, 201, 202] rfl (by decide +kernel)
set_option maxRecDepth 20000 in
theorem gX12_text_X12_readText : GoodIn wsX12_text (wsV RX12 272 RX12 yX12_readText wsX12_readText) := goodIn_app (goodIn_of _ (by decide +kernel)) ggX12_text_X12_readText
theorem dX12_text_0 : decode cX12_text 0 = .ok (.aload_n 0, 1) := by decide +kernel
theorem dX12_text_1 : decode cX12_text 1 = .ok (.getfield 7, 3) := by decide +kernel
theorem dX12_text_4 : decode cX12_text 4 = .ok (.iconst 2, 1) := by decide +kernel
theorem dX12_text_5 : decode cX12_text 5 = .ok (.iaload, 1) := by decide +kernel
theorem dX12_text_6 : decode cX12_text 6 = .ok (.iconst 4, 1) := by decide +kernel
theorem dX12_text_7 : decode cX12_text 7 = .ok (.if_icmp .ne 5, 3) := by decide +kernel
theorem dX12_text_10 : decode cX12_text 10 = .ok (.iconst (-1), 1) := by decide +kernel
theorem dX12_text_11 : decode cX12_text 11 = .ok (.ireturn, 1) := by decide +kernel
theorem dX12_text_12 : decode cX12_text 12 = .ok (.aload_n 0, 1) := by decide +kernel
theorem dX12_text_13 : decode cX12_text 13 = .ok (.aload_n 0, 1) := by decide +kernel
theorem dX12_text_14 : decode cX12_text 14 = .ok (.invokevirtual 272, 3) := by decide +kernel
theorem dX12_text_17 : decode cX12_text 17 = .ok (.putfield 22, 3) := by decide +kernel
theorem dX12_text_20 : decode cX12_text 20 = .ok (.aload_n 0, 1) := by decide +kernel
theorem dX12_text_21 : decode cX12_text 21 = .ok (.aload_n 0, 1) := by decide +kernel
theorem dX12_text_22 : decode cX12_text 22 = .ok (.getfield 22, 3) := by decide +kernel
theorem dX12_text_25 : decode cX12_text 25 = .ok (.ifCond .ne 7, 3) := by decide +kernel
theorem dX12_text_28 : decode cX12_text 28 = .ok (.iconst (-1), 1) := by decide +kernel
theorem dX12_text_29 : decode cX12_text 29 = .ok (.goto 7, 3) := by decide +kernel
theorem dX12_text_32 : decode cX12_text 32 = .ok (.aload_n 0, 1) := by decide +kernel
theorem dX12_text_33 : decode cX12_text 33 = .ok (.getfield 110, 3) := by decide +kernel
theorem dX12_text_36 : decode cX12_text 36 = .ok (.putfield 26, 3) := by decide +kernel
theorem dX12_text_39 : decode cX12_text 39 = .ok (.aload_n 0, 1) := by decide +kernel
theorem dX12_text_40 : decode cX12_text 40 = .ok (.iconst 0, 1) := by decide +kernel
theorem dX12_text_41 : decode cX12_text 41 = .ok (.putfield 97, 3) := by decide +kernel
theorem dX12_text_44 : decode cX12_text 44 = .ok (.aload_n 0, 1) := by decide +kernel
theorem dX12_text_45 : decode cX12_text 45 = .ok (.getfield 22, 3) := by decide +kernel
theorem dX12_text_48 : decode cX12_text 48 = .ok (.ifCond .eq 5, 3) := by decide +kernel
theorem dX12_text_51 : decode cX12_text 51 = .ok (.iconst (-1), 1) := by decide +kernel
theorem dX12_text_52 : decode cX12_text 52 = .ok (.ireturn, 1) := by decide +kernel
theorem dX12_text_53 : decode cX12_text 53 = .ok (.aload_n 0, 1) := by decide +kernel
theorem dX12_text_54 : decode cX12_text 54 = .ok (.getfield 7, 3) := by decide +kernel
theorem dX12_text_57 : decode cX12_text 57 = .ok (.iconst 2, 1) := by decide +kernel
theorem dX12_text_58 : decode cX12_text 58 = .ok (.dup2, 1) := by decide +kernel
theorem dX12_text_59 : decode cX12_text 59 = .ok (.iaload, 1) := by decide +kernel
theorem dX12_text_60 : decode cX12_text 60 = .ok (.iconst 1, 1) := by decide +kernel
theorem dX12_text_61 : decode cX12_text 61 = .ok (.iadd, 1) := by decide +kernel
theorem dX12_text_62 : decode cX12_text 62 = .ok (.iastore, 1) := by decide +kernel
theorem dX12_text_63 : decode cX12_text 63 = .ok (.aload_n 0, 1) := by decide +kernel
theorem dX12_text_64 : decode cX12_text 64 = .ok (.getfield 7, 3) := by decide +kernel
theorem dX12_text_67 : decode cX12_text 67 = .ok (.iconst 2, 1) := by decide +kernel
theorem dX12_text_68 : decode cX12_text 68 = .ok (.iaload, 1) := by decide +kernel
theorem dX12_text_69 : decode cX12_text 69 = .ok (.iconst 1, 1) := by decide +kernel
theorem dX12_text_70 : decode cX12_text 70 = .ok (.isub, 1) := by decide +kernel
theorem dX12_text_71 : decode cX12_text 71 = .ok (.ireturn, 1) := by decide +kernel
theorem dX12_fault_0 : decode cX12_fault 0 = .ok (.iload_n 1, 1) := by decide +kernel
theorem dX12_fault_1 : decode cX12_fault 1 = .ok (.ifCond .ne 10, 3) := by decide +kernel
theorem dX12_fault_4 : decode cX12_fault 4 = .ok (.aload_n 0, 1) := by decide +kernel
theorem dX12_fault_5 : decode cX12_fault 5 = .ok (.getfield 22, 3) := by decide +kernel
theorem dX12_fault_8 : decode cX12_fault 8 = .ok (.goto 16, 3) := by decide +kernel
theorem dX12_fault_11 : decode cX12_fault 11 = .ok (.iload_n 1, 1) := by decide +kernel
theorem dX12_fault_12 : decode cX12_fault 12 = .ok (.iconst 1, 1) := by decide +kernel
theorem dX12_fault_13 : decode cX12_fault 13 = .ok (.if_icmp .ne 10, 3) := by decide +kernel
theorem dX12_fault_16 : decode cX12_fault 16 = .ok (.aload_n 0, 1) := by decide +kernel
theorem dX12_fault_17 : decode cX12_fault 17 = .ok (.getfield 26, 3) := by decide +kernel
theorem dX12_fault_20 : decode cX12_fault 20 = .ok (.goto 4, 3) := by decide +kernel
theorem dX12_fault_23 : decode cX12_fault 23 = .ok (.iconst (-1), 1) := by decide +kernel
theorem dX12_fault_24 : decode cX12_fault 24 = .ok (.ireturn, 1) := by decide +kernel
set_option maxRecDepth 20000 in
theorem ggX12_by_X12_isIn : GoodIn wsX12_by wsX12_isIn := goodIn_r _ [5] rfl (by decide +kernel)
set_option maxRecDepth 20000 in
theorem gX12_by_X12_isIn : GoodIn wsX12_by (va_wsS RX12 68 yX12_isIn wsX12_isIn) := goodIn_app (goodIn_of _ (by decide +kernel)) ggX12_by_X12_isIn
theorem dX12_by_0 : decode cX12_by 0 = .ok (.iload_n 1, 1) := by decide +kernel
theorem dX12_by_1 : decode cX12_by 1 = .ok (.iconst (-1), 1) := by decide +kernel
theorem dX12_by_2 : decode cX12_by 2 = .ok (.aload_n 0, 1) := by decide +kernel
theorem dX12_by_3 : decode cX12_by 3 = .ok (.getfield 7, 3) := by decide +kernel
theorem dX12_by_6 : decode cX12_by 6 = .ok (.iconst 2, 1) := by decide +kernel
theorem dX12_by_7 : decode cX12_by 7 = .ok (.iaload, 1) := by decide +kernel
theorem dX12_by_8 : decode cX12_by 8 = .ok (.iconst 1, 1) := by decide +kernel
theorem dX12_by_9 : decode cX12_by 9 = .ok (.isub, 1) := by decide +kernel
theorem dX12_by_10 : decode cX12_by 10 = .ok (.invokestatic 68, 3) := by decide +kernel
theorem dX12_by_13 : decode cX12_by 13 = .ok (.ifCond .ne 5, 3) := by decide +kernel
theorem dX12_by_16 : decode cX12_by 16 = .ok (.iconst 0, 1) := by decide +kernel
theorem dX12_by_17 : decode cX12_by 17 = .ok (.ireturn, 1) := by decide +kernel
theorem dX12_by_18 : decode cX12_by 18 = .ok (.aload_n 0, 1) := by decide +kernel
theorem dX12_by_19 : decode cX12_by 19 = .ok (.getfield 7, 3) := by decide +kernel
theorem dX12_by_22 : decode cX12_by 22 = .ok (.iconst 3, 1) := by decide +kernel
theorem dX12_by_23 : decode cX12_by 23 = .ok (.iload_n 1, 1) := by decide +kernel
theorem dX12_by_24 : decode cX12_by 24 = .ok (.iastore, 1) := by decide +kernel
theorem dX12_by_25 : decode cX12_by 25 = .ok (.iconst 1, 1) := by decide +kernel
theorem dX12_by_26 : decode cX12_by 26 = .ok (.ireturn, 1) := by decide +kernel
theorem dX12_clip_0 : decode cX12_clip 0 = .ok (.lload_n 0, 1) := by decide +kernel
theorem dX12_clip_1 : decode cX12_clip 1 = .ok (.ldc2_w 275, 3) := by decide +kernel
theorem dX12_clip_4 : decode cX12_clip 4 = .ok (.lcmp, 1) := by decide +kernel
theorem dX12_clip_5 : decode cX12_clip 5 = .ok (.ifCond .le 9, 3) := by decide +kernel
theorem dX12_clip_8 : decode cX12_clip 8 = .ok (.ldc2_w 275, 3) := by decide +kernel
theorem dX12_clip_11 : decode cX12_clip 11 = .ok (.goto 18, 3) := by decide +kernel
theorem dX12_clip_14 : decode cX12_clip 14 = .ok (.lload_n 0, 1) := by decide +kernel
theorem dX12_clip_15 : decode cX12_clip 15 = .ok (.ldc2_w 277, 3) := by decide +kernel
theorem dX12_clip_18 : decode cX12_clip 18 = .ok (.lcmp, 1) := by decide +kernel
theorem dX12_clip_19 : decode cX12_clip 19 = .ok (.ifCond .ge 9, 3) := by decide +kernel
theorem dX12_clip_22 : decode cX12_clip 22 = .ok (.ldc2_w 277, 3) := by decide +kernel
theorem dX12_clip_25 : decode cX12_clip 25 = .ok (.goto 4, 3) := by decide +kernel
theorem dX12_clip_28 : decode cX12_clip 28 = .ok (.lload_n 0, 1) := by decide +kernel
theorem dX12_clip_29 : decode cX12_clip 29 = .ok (.lreturn, 1) := by decide +kernel
set_option maxRecDepth 20000 in
theorem ggX12_two_X12_clip : GoodIn wsX12_two wsX12_clip := goodIn_r _ [4, 5, 6] rfl (by decide +kernel)
set_option maxRecDepth 20000 in
theorem gX12_two_X12_clip : GoodIn wsX12_two (va_wsS RX12 279 yX12_clip wsX12_clip) := goodIn_app (goodIn_of _ (by decide +kernel)) ggX12_two_X12_clip
theorem dX12_two_0 : decode cX12_two 0 = .ok (.iload_n 0, 1) := by decide +kernel
theorem dX12_two_1 : decode cX12_two 1 = .ok (.tableswitch 48 6 8 #[27, 34, 41], 27) := by decide +kernel
theorem dX12_two_28 : decode cX12_two 28 = .ok (.lload_n 1, 1) := by decide +kernel
theorem dX12_two_29 : decode cX12_two 29 = .ok (.lload_n 3, 1) := by decide +kernel
theorem dX12_two_30 : decode cX12_two 30 = .ok (.ladd, 1) := by decide +kernel
theorem dX12_two_31 : decode cX12_two 31 = .ok (.invokestatic 279, 3) := by decide +kernel
theorem dX12_two_34 : decode cX12_two 34 = .ok (.lreturn, 1) := by decide +kernel
theorem dX12_two_35 : decode cX12_two 35 = .ok (.lload_n 1, 1) := by decide +kernel
theorem dX12_two_36 : decode cX12_two 36 = .ok (.lload_n 3, 1) := by decide +kernel
theorem dX12_two_37 : decode cX12_two 37 = .ok (.lsub, 1) := by decide +kernel
theorem dX12_two_38 : decode cX12_two 38 = .ok (.invokestatic 279, 3) := by decide +kernel
theorem dX12_two_41 : decode cX12_two 41 = .ok (.lreturn, 1) := by decide +kernel
theorem dX12_two_42 : decode cX12_two 42 = .ok (.lload_n 1, 1) := by decide +kernel
theorem dX12_two_43 : decode cX12_two 43 = .ok (.lload_n 3, 1) := by decide +kernel
theorem dX12_two_44 : decode cX12_two 44 = .ok (.lmul, 1) := by decide +kernel
theorem dX12_two_45 : decode cX12_two 45 = .ok (.invokestatic 279, 3) := by decide +kernel
theorem dX12_two_48 : decode cX12_two 48 = .ok (.lreturn, 1) := by decide +kernel
theorem dX12_two_49 : decode cX12_two 49 = .ok (.lload_n 3, 1) := by decide +kernel
theorem dX12_two_50 : decode cX12_two 50 = .ok (.lconst 0, 1) := by decide +kernel
theorem dX12_two_51 : decode cX12_two 51 = .ok (.lcmp, 1) := by decide +kernel
theorem dX12_two_52 : decode cX12_two 52 = .ok (.ifCond .ne 7, 3) := by decide +kernel
theorem dX12_two_55 : decode cX12_two 55 = .ok (.lconst 0, 1) := by decide +kernel
theorem dX12_two_56 : decode cX12_two 56 = .ok (.goto 9, 3) := by decide +kernel
theorem dX12_two_59 : decode cX12_two 59 = .ok (.lload_n 1, 1) := by decide +kernel
theorem dX12_two_60 : decode cX12_two 60 = .ok (.lload_n 3, 1) := by decide +kernel
theorem dX12_two_61 : decode cX12_two 61 = .ok (.ldiv, 1) := by decide +kernel
theorem dX12_two_62 : decode cX12_two 62 = .ok (.invokestatic 279, 3) := by decide +kernel
theorem dX12_two_65 : decode cX12_two 65 = .ok (.lreturn, 1) := by decide +kernel
theorem dX12_isAsked_0 : decode cX12_isAsked 0 = .ok (.iload_n 0, 1) := by decide +kernel
theorem dX12_isAsked_1 : decode cX12_isAsked 1 = .ok (.bipush 10, 2) := by decide +kernel
theorem dX12_isAsked_3 : decode cX12_isAsked 3 = .ok (.if_icmp .ne 17, 3) := by decide +kernel
theorem dX12_isAsked_6 : decode cX12_isAsked 6 = .ok (.lload_n 1, 1) := by decide +kernel
theorem dX12_isAsked_7 : decode cX12_isAsked 7 = .ok (.lload_n 3, 1) := by decide +kernel
theorem dX12_isAsked_8 : decode cX12_isAsked 8 = .ok (.lcmp, 1) := by decide +kernel
theorem dX12_isAsked_9 : decode cX12_isAsked 9 = .ok (.ifCond .ge 7, 3) := by decide +kernel
theorem dX12_isAsked_12 : decode cX12_isAsked 12 = .ok (.iconst 1, 1) := by decide +kernel
theorem dX12_isAsked_13 : decode cX12_isAsked 13 = .ok (.goto 98, 3) := by decide +kernel
theorem dX12_isAsked_16 : decode cX12_isAsked 16 = .ok (.iconst 0, 1) := by decide +kernel
theorem dX12_isAsked_17 : decode cX12_isAsked 17 = .ok (.goto 94, 3) := by decide +kernel
theorem dX12_isAsked_20 : decode cX12_isAsked 20 = .ok (.iload_n 0, 1) := by decide +kernel
theorem dX12_isAsked_21 : decode cX12_isAsked 21 = .ok (.bipush 11, 2) := by decide +kernel
theorem dX12_isAsked_23 : decode cX12_isAsked 23 = .ok (.if_icmp .ne 17, 3) := by decide +kernel
theorem dX12_isAsked_26 : decode cX12_isAsked 26 = .ok (.lload_n 1, 1) := by decide +kernel
theorem dX12_isAsked_27 : decode cX12_isAsked 27 = .ok (.lload_n 3, 1) := by decide +kernel
theorem dX12_isAsked_28 : decode cX12_isAsked 28 = .ok (.lcmp, 1) := by decide +kernel
theorem dX12_isAsked_29 : decode cX12_isAsked 29 = .ok (.ifCond .gt 7, 3) := by decide +kernel
theorem dX12_isAsked_32 : decode cX12_isAsked 32 = .ok (.iconst 1, 1) := by decide +kernel
theorem dX12_isAsked_33 : decode cX12_isAsked 33 = .ok (.goto 78, 3) := by decide +kernel
theorem dX12_isAsked_36 : decode cX12_isAsked 36 = .ok (.iconst 0, 1) := by decide +kernel
theorem dX12_isAsked_37 : decode cX12_isAsked 37 = .ok (.goto 74, 3) := by decide +kernel
theorem dX12_isAsked_40 : decode cX12_isAsked 40 = .ok (.iload_n 0, 1) := by decide +kernel
theorem dX12_isAsked_41 : decode cX12_isAsked 41 = .ok (.bipush 12, 2) := by decide +kernel
theorem dX12_isAsked_43 : decode cX12_isAsked 43 = .ok (.if_icmp .ne 17, 3) := by decide +kernel
theorem dX12_isAsked_46 : decode cX12_isAsked 46 = .ok (.lload_n 1, 1) := by decide +kernel
theorem dX12_isAsked_47 : decode cX12_isAsked 47 = .ok (.lload_n 3, 1) := by decide +kernel
theorem dX12_isAsked_48 : decode cX12_isAsked 48 = .ok (.lcmp, 1) := by decide +kernel
theorem dX12_isAsked_49 : decode cX12_isAsked 49 = .ok (.ifCond .le 7, 3) := by decide +kernel
theorem dX12_isAsked_52 : decode cX12_isAsked 52 = .ok (.iconst 1, 1) := by decide +kernel
theorem dX12_isAsked_53 : decode cX12_isAsked 53 = .ok (.goto 58, 3) := by decide +kernel
theorem dX12_isAsked_56 : decode cX12_isAsked 56 = .ok (.iconst 0, 1) := by decide +kernel
theorem dX12_isAsked_57 : decode cX12_isAsked 57 = .ok (.goto 54, 3) := by decide +kernel
theorem dX12_isAsked_60 : decode cX12_isAsked 60 = .ok (.iload_n 0, 1) := by decide +kernel
theorem dX12_isAsked_61 : decode cX12_isAsked 61 = .ok (.bipush 13, 2) := by decide +kernel
theorem dX12_isAsked_63 : decode cX12_isAsked 63 = .ok (.if_icmp .ne 17, 3) := by decide +kernel
theorem dX12_isAsked_66 : decode cX12_isAsked 66 = .ok (.lload_n 1, 1) := by decide +kernel
theorem dX12_isAsked_67 : decode cX12_isAsked 67 = .ok (.lload_n 3, 1) := by decide +kernel
theorem dX12_isAsked_68 : decode cX12_isAsked 68 = .ok (.lcmp, 1) := by decide +kernel
theorem dX12_isAsked_69 : decode cX12_isAsked 69 = .ok (.ifCond .lt 7, 3) := by decide +kernel
theorem dX12_isAsked_72 : decode cX12_isAsked 72 = .ok (.iconst 1, 1) := by decide +kernel
theorem dX12_isAsked_73 : decode cX12_isAsked 73 = .ok (.goto 38, 3) := by decide +kernel
theorem dX12_isAsked_76 : decode cX12_isAsked 76 = .ok (.iconst 0, 1) := by decide +kernel
theorem dX12_isAsked_77 : decode cX12_isAsked 77 = .ok (.goto 34, 3) := by decide +kernel
theorem dX12_isAsked_80 : decode cX12_isAsked 80 = .ok (.iload_n 0, 1) := by decide +kernel
theorem dX12_isAsked_81 : decode cX12_isAsked 81 = .ok (.bipush 14, 2) := by decide +kernel
theorem dX12_isAsked_83 : decode cX12_isAsked 83 = .ok (.if_icmp .ne 17, 3) := by decide +kernel
theorem dX12_isAsked_86 : decode cX12_isAsked 86 = .ok (.lload_n 1, 1) := by decide +kernel
theorem dX12_isAsked_87 : decode cX12_isAsked 87 = .ok (.lload_n 3, 1) := by decide +kernel
theorem dX12_isAsked_88 : decode cX12_isAsked 88 = .ok (.lcmp, 1) := by decide +kernel
theorem dX12_isAsked_89 : decode cX12_isAsked 89 = .ok (.ifCond .ne 7, 3) := by decide +kernel
theorem dX12_isAsked_92 : decode cX12_isAsked 92 = .ok (.iconst 1, 1) := by decide +kernel
theorem dX12_isAsked_93 : decode cX12_isAsked 93 = .ok (.goto 18, 3) := by decide +kernel
theorem dX12_isAsked_96 : decode cX12_isAsked 96 = .ok (.iconst 0, 1) := by decide +kernel
theorem dX12_isAsked_97 : decode cX12_isAsked 97 = .ok (.goto 14, 3) := by decide +kernel
theorem dX12_isAsked_100 : decode cX12_isAsked 100 = .ok (.lload_n 1, 1) := by decide +kernel
theorem dX12_isAsked_101 : decode cX12_isAsked 101 = .ok (.lload_n 3, 1) := by decide +kernel
theorem dX12_isAsked_102 : decode cX12_isAsked 102 = .ok (.lcmp, 1) := by decide +kernel
theorem dX12_isAsked_103 : decode cX12_isAsked 103 = .ok (.ifCond .eq 7, 3) := by decide +kernel
theorem dX12_isAsked_106 : decode cX12_isAsked 106 = .ok (.iconst 1, 1) := by decide +kernel
theorem dX12_isAsked_107 : decode cX12_isAsked 107 = .ok (.goto 4, 3) := by decide +kernel
theorem dX12_isAsked_110 : decode cX12_isAsked 110 = .ok (.iconst 0, 1) := by decide +kernel
theorem dX12_isAsked_111 : decode cX12_isAsked 111 = .ok (.ireturn, 1) := by decide +kernel
set_option maxRecDepth 20000 in
theorem ggX12_moodOf_X12_get : GoodIn wsX12_moodOf wsX12_get := goodIn_r _ [6, 1, 7, 8, 9, 10, 11, 12, 13, 14, 15, 16, 17, 18, 19, 20, 21, 22, 23, 24, 25, 26, 27, 28, 29, 30, 31, 32, 33, 34, 35, 36, 37] rfl (by decide +kernel)
set_option maxRecDepth 20000 in
theorem gX12_moodOf_X12_get : GoodIn wsX12_moodOf (wsV RX12 84 RX12 yX12_get wsX12_get) := goodIn_app (goodIn_of _ (by decide +kernel)) ggX12_moodOf_X12_get
theorem dX12_moodOf_0 : decode cX12_moodOf 0 = .ok (.lload_n 1, 1) := by decide +kernel
theorem dX12_moodOf_1 : decode cX12_moodOf 1 = .ok (.lconst 0, 1) := by decide +kernel
theorem dX12_moodOf_2 : decode cX12_moodOf 2 = .ok (.lcmp, 1) := by decide +kernel
theorem dX12_moodOf_3 : decode cX12_moodOf 3 = .ok (.ifCond .lt 26, 3) := by decide +kernel
theorem dX12_moodOf_6 : decode cX12_moodOf 6 = .ok (.lload_n 1, 1) := by decide +kernel
theorem dX12_moodOf_7 : decode cX12_moodOf 7 = .ok (.aload_n 0, 1) := by decide +kernel
theorem dX12_moodOf_8 : decode cX12_moodOf 8 = .ok (.getfield 7, 3) := by decide +kernel
theorem dX12_moodOf_11 : decode cX12_moodOf 11 = .ok (.iconst 0, 1) := by decide +kernel
theorem dX12_moodOf_12 : decode cX12_moodOf 12 = .ok (.iaload, 1) := by decide +kernel
theorem dX12_moodOf_13 : decode cX12_moodOf 13 = .ok (.i2l, 1) := by decide +kernel
theorem dX12_moodOf_14 : decode cX12_moodOf 14 = .ok (.lcmp, 1) := by decide +kernel
theorem dX12_moodOf_15 : decode cX12_moodOf 15 = .ok (.ifCond .ge 14, 3) := by decide +kernel
theorem dX12_moodOf_18 : decode cX12_moodOf 18 = .ok (.aload_n 0, 1) := by decide +kernel
theorem dX12_moodOf_19 : decode cX12_moodOf 19 = .ok (.lload_n 1, 1) := by decide +kernel
theorem dX12_moodOf_20 : decode cX12_moodOf 20 = .ok (.l2i, 1) := by decide +kernel
theorem dX12_moodOf_21 : decode cX12_moodOf 21 = .ok (.iconst 1, 1) := by decide +kernel
theorem dX12_moodOf_22 : decode cX12_moodOf 22 = .ok (.invokevirtual 84, 3) := by decide +kernel
theorem dX12_moodOf_25 : decode cX12_moodOf 25 = .ok (.i2l, 1) := by decide +kernel
theorem dX12_moodOf_26 : decode cX12_moodOf 26 = .ok (.goto 4, 3) := by decide +kernel
theorem dX12_moodOf_29 : decode cX12_moodOf 29 = .ok (.lconst 0, 1) := by decide +kernel
theorem dX12_moodOf_30 : decode cX12_moodOf 30 = .ok (.lreturn, 1) := by decide +kernel
theorem dX12_joined_0 : decode cX12_joined 0 = .ok (.iload_n 0, 1) := by decide +kernel
theorem dX12_joined_1 : decode cX12_joined 1 = .ok (.bipush 21, 2) := by decide +kernel
theorem dX12_joined_3 : decode cX12_joined 3 = .ok (.if_icmp .ne 19, 3) := by decide +kernel
theorem dX12_joined_6 : decode cX12_joined 6 = .ok (.iload_n 1, 1) := by decide +kernel
theorem dX12_joined_7 : decode cX12_joined 7 = .ok (.ifCond .eq 11, 3) := by decide +kernel
theorem dX12_joined_10 : decode cX12_joined 10 = .ok (.iload_n 2, 1) := by decide +kernel
theorem dX12_joined_11 : decode cX12_joined 11 = .ok (.ifCond .eq 7, 3) := by decide +kernel
theorem dX12_joined_14 : decode cX12_joined 14 = .ok (.iconst 1, 1) := by decide +kernel
theorem dX12_joined_15 : decode cX12_joined 15 = .ok (.goto 20, 3) := by decide +kernel
theorem dX12_joined_18 : decode cX12_joined 18 = .ok (.iconst 0, 1) := by decide +kernel
theorem dX12_joined_19 : decode cX12_joined 19 = .ok (.goto 16, 3) := by decide +kernel
theorem dX12_joined_22 : decode cX12_joined 22 = .ok (.iload_n 1, 1) := by decide +kernel
theorem dX12_joined_23 : decode cX12_joined 23 = .ok (.ifCond .ne 7, 3) := by decide +kernel
theorem dX12_joined_26 : decode cX12_joined 26 = .ok (.iload_n 2, 1) := by decide +kernel
theorem dX12_joined_27 : decode cX12_joined 27 = .ok (.ifCond .eq 7, 3) := by decide +kernel
theorem dX12_joined_30 : decode cX12_joined 30 = .ok (.iconst 1, 1) := by decide +kernel
theorem dX12_joined_31 : decode cX12_joined 31 = .ok (.goto 4, 3) := by decide +kernel
theorem dX12_joined_34 : decode cX12_joined 34 = .ok (.iconst 0, 1) := by decide +kernel
theorem dX12_joined_35 : decode cX12_joined 35 = .ok (.ireturn, 1) := by decide +kernel
theorem dX12_heldIn_0 : decode cX12_heldIn 0 = .ok (.lload_n 0, 1) := by decide +kernel
theorem dX12_heldIn_1 : decode cX12_heldIn 1 = .ok (.lload_n 2, 1) := by decide +kernel
theorem dX12_heldIn_2 : decode cX12_heldIn 2 = .ok (.lcmp, 1) := by decide +kernel
theorem dX12_heldIn_3 : decode cX12_heldIn 3 = .ok (.ifCond .ge 7, 3) := by decide +kernel
theorem dX12_heldIn_6 : decode cX12_heldIn 6 = .ok (.lload_n 2, 1) := by decide +kernel
theorem dX12_heldIn_7 : decode cX12_heldIn 7 = .ok (.goto 4, 3) := by decide +kernel
theorem dX12_heldIn_10 : decode cX12_heldIn 10 = .ok (.lload_n 0, 1) := by decide +kernel
theorem dX12_heldIn_11 : decode cX12_heldIn 11 = .ok (.lstore 6, 2) := by decide +kernel
theorem dX12_heldIn_13 : decode cX12_heldIn 13 = .ok (.lload 6, 2) := by decide +kernel
theorem dX12_heldIn_15 : decode cX12_heldIn 15 = .ok (.lload 4, 2) := by decide +kernel
theorem dX12_heldIn_17 : decode cX12_heldIn 17 = .ok (.lcmp, 1) := by decide +kernel
theorem dX12_heldIn_18 : decode cX12_heldIn 18 = .ok (.ifCond .le 8, 3) := by decide +kernel
theorem dX12_heldIn_21 : decode cX12_heldIn 21 = .ok (.lload 4, 2) := by decide +kernel
theorem dX12_heldIn_23 : decode cX12_heldIn 23 = .ok (.goto 5, 3) := by decide +kernel
theorem dX12_heldIn_26 : decode cX12_heldIn 26 = .ok (.lload 6, 2) := by decide +kernel
theorem dX12_heldIn_28 : decode cX12_heldIn 28 = .ok (.lreturn, 1) := by decide +kernel
set_option maxRecDepth 20000 in
theorem ggX12_summedUp_X12_heldIn : GoodIn wsX12_summedUp wsX12_heldIn := goodIn_r _ [8] rfl (by decide +kernel)
set_option maxRecDepth 20000 in
theorem gX12_summedUp_X12_heldIn : GoodIn wsX12_summedUp (va_wsS RX12 283 yX12_heldIn wsX12_heldIn) := goodIn_app (goodIn_of _ (by decide +kernel)) ggX12_summedUp_X12_heldIn
set_option maxRecDepth 20000 in
theorem ggX12_summedUp_X12_moodOf : GoodIn wsX12_summedUp wsX12_moodOf := goodIn_r _ [12, 13, 14, 15, 16, 7, 17, 32, 33, 34, 35, 36, 37, 38, 39, 40, 41, 42, 43, 44, 45, 46, 47, 48, 49, 50, 51, 52, 53, 54, 55, 56, 57, 58, 59, 60, 61, 62] rfl (by decide +kernel)
set_option maxRecDepth 20000 in
theorem gX12_summedUp_X12_moodOf : GoodIn wsX12_summedUp (wsV RX12 287 RX12 yX12_moodOf wsX12_moodOf) := goodIn_app (goodIn_of _ (by decide +kernel)) ggX12_summedUp_X12_moodOf
set_option maxRecDepth 20000 in
theorem ggX12_summedUp_X12_two : GoodIn wsX12_summedUp wsX12_two := goodIn_r _ [20, 21, 22, 7, 23, 24, 25] rfl (by decide +kernel)
set_option maxRecDepth 20000 in
theorem gX12_summedUp_X12_two : GoodIn wsX12_summedUp (va_wsS RX12 290 yX12_two wsX12_two) := goodIn_app (goodIn_of _ (by decide +kernel)) ggX12_summedUp_X12_two
set_option maxRecDepth 20000 in
theorem ggX12_summedUp_X12_isAsked : GoodIn wsX12_summedUp wsX12_isAsked := goodIn_r _ [28] rfl (by decide +kernel)
set_option maxRecDepth 20000 in
theorem gX12_summedUp_X12_isAsked : GoodIn wsX12_summedUp (va_wsS RX12 294 yX12_isAsked wsX12_isAsked) := goodIn_app (goodIn_of _ (by decide +kernel)) ggX12_summedUp_X12_isAsked
set_option maxRecDepth 20000 in
theorem ggX12_summedUp_X12_joined : GoodIn wsX12_summedUp wsX12_joined := goodIn_r _ [31] rfl (by decide +kernel)
set_option maxRecDepth 20000 in
theorem gX12_summedUp_X12_joined : GoodIn wsX12_summedUp (va_wsS RX12 298 yX12_joined wsX12_joined) := goodIn_app (goodIn_of _ (by decide +kernel)) ggX12_summedUp_X12_joined
theorem dX12_summedUp_0 : decode cX12_summedUp 0 = .ok (.sipush 705, 3) := by decide +kernel
theorem dX12_summedUp_3 : decode cX12_summedUp 3 = .ok (.iload_n 1, 1) := by decide +kernel
theorem dX12_summedUp_4 : decode cX12_summedUp 4 = .ok (.imul, 1) := by decide +kernel
theorem dX12_summedUp_5 : decode cX12_summedUp 5 = .ok (.iconst 1, 1) := by decide +kernel
theorem dX12_summedUp_6 : decode cX12_summedUp 6 = .ok (.iadd, 1) := by decide +kernel
theorem dX12_summedUp_7 : decode cX12_summedUp 7 = .ok (.iconst 4, 1) := by decide +kernel
theorem dX12_summedUp_8 : decode cX12_summedUp 8 = .ok (.iload_n 2, 1) := by decide +kernel
theorem dX12_summedUp_9 : decode cX12_summedUp 9 = .ok (.imul, 1) := by decide +kernel
theorem dX12_summedUp_10 : decode cX12_summedUp 10 = .ok (.iadd, 1) := by decide +kernel
theorem dX12_summedUp_11 : decode cX12_summedUp 11 = .ok (.istore_n 3, 1) := by decide +kernel
theorem dX12_summedUp_12 : decode cX12_summedUp 12 = .ok (.sipush 705, 3) := by decide +kernel
theorem dX12_summedUp_15 : decode cX12_summedUp 15 = .ok (.iload_n 1, 1) := by decide +kernel
theorem dX12_summedUp_16 : decode cX12_summedUp 16 = .ok (.imul, 1) := by decide +kernel
theorem dX12_summedUp_17 : decode cX12_summedUp 17 = .ok (.bipush 97, 2) := by decide +kernel
theorem dX12_summedUp_19 : decode cX12_summedUp 19 = .ok (.iadd, 1) := by decide +kernel
theorem dX12_summedUp_20 : decode cX12_summedUp 20 = .ok (.istore 4, 2) := by decide +kernel
theorem dX12_summedUp_22 : decode cX12_summedUp 22 = .ok (.iconst 0, 1) := by decide +kernel
theorem dX12_summedUp_23 : decode cX12_summedUp 23 = .ok (.istore 5, 2) := by decide +kernel
theorem dX12_summedUp_25 : decode cX12_summedUp 25 = .ok (.iconst 0, 1) := by decide +kernel
theorem dX12_summedUp_26 : decode cX12_summedUp 26 = .ok (.istore 6, 2) := by decide +kernel
theorem dX12_summedUp_28 : decode cX12_summedUp 28 = .ok (.aload_n 0, 1) := by decide +kernel
theorem dX12_summedUp_29 : decode cX12_summedUp 29 = .ok (.getfield 16, 3) := by decide +kernel
theorem dX12_summedUp_32 : decode cX12_summedUp 32 = .ok (.iload_n 3, 1) := by decide +kernel
theorem dX12_summedUp_33 : decode cX12_summedUp 33 = .ok (.iconst 1, 1) := by decide +kernel
theorem dX12_summedUp_34 : decode cX12_summedUp 34 = .ok (.iadd, 1) := by decide +kernel
theorem dX12_summedUp_35 : decode cX12_summedUp 35 = .ok (.iaload, 1) := by decide +kernel
theorem dX12_summedUp_36 : decode cX12_summedUp 36 = .ok (.istore 7, 2) := by decide +kernel
theorem dX12_summedUp_38 : decode cX12_summedUp 38 = .ok (.iload 7, 2) := by decide +kernel
theorem dX12_summedUp_40 : decode cX12_summedUp 40 = .ok (.aload_n 0, 1) := by decide +kernel
theorem dX12_summedUp_41 : decode cX12_summedUp 41 = .ok (.getfield 16, 3) := by decide +kernel
theorem dX12_summedUp_44 : decode cX12_summedUp 44 = .ok (.iload_n 3, 1) := by decide +kernel
theorem dX12_summedUp_45 : decode cX12_summedUp 45 = .ok (.iconst 2, 1) := by decide +kernel
theorem dX12_summedUp_46 : decode cX12_summedUp 46 = .ok (.iadd, 1) := by decide +kernel
theorem dX12_summedUp_47 : decode cX12_summedUp 47 = .ok (.iaload, 1) := by decide +kernel
theorem dX12_summedUp_48 : decode cX12_summedUp 48 = .ok (.if_icmp .ge 373, 3) := by decide +kernel
theorem dX12_summedUp_51 : decode cX12_summedUp 51 = .ok (.aload_n 0, 1) := by decide +kernel
theorem dX12_summedUp_52 : decode cX12_summedUp 52 = .ok (.getfield 16, 3) := by decide +kernel
theorem dX12_summedUp_55 : decode cX12_summedUp 55 = .ok (.iload 4, 2) := by decide +kernel
theorem dX12_summedUp_57 : decode cX12_summedUp 57 = .ok (.iconst 2, 1) := by decide +kernel
theorem dX12_summedUp_58 : decode cX12_summedUp 58 = .ok (.iload 7, 2) := by decide +kernel
theorem dX12_summedUp_60 : decode cX12_summedUp 60 = .ok (.imul, 1) := by decide +kernel
theorem dX12_summedUp_61 : decode cX12_summedUp 61 = .ok (.iadd, 1) := by decide +kernel
theorem dX12_summedUp_62 : decode cX12_summedUp 62 = .ok (.iaload, 1) := by decide +kernel
theorem dX12_summedUp_63 : decode cX12_summedUp 63 = .ok (.istore 8, 2) := by decide +kernel
theorem dX12_summedUp_65 : decode cX12_summedUp 65 = .ok (.aload_n 0, 1) := by decide +kernel
theorem dX12_summedUp_66 : decode cX12_summedUp 66 = .ok (.getfield 16, 3) := by decide +kernel
theorem dX12_summedUp_69 : decode cX12_summedUp 69 = .ok (.iload 4, 2) := by decide +kernel
theorem dX12_summedUp_71 : decode cX12_summedUp 71 = .ok (.iconst 2, 1) := by decide +kernel
theorem dX12_summedUp_72 : decode cX12_summedUp 72 = .ok (.iload 7, 2) := by decide +kernel
theorem dX12_summedUp_74 : decode cX12_summedUp 74 = .ok (.imul, 1) := by decide +kernel
theorem dX12_summedUp_75 : decode cX12_summedUp 75 = .ok (.iadd, 1) := by decide +kernel
theorem dX12_summedUp_76 : decode cX12_summedUp 76 = .ok (.iconst 1, 1) := by decide +kernel
theorem dX12_summedUp_77 : decode cX12_summedUp 77 = .ok (.iadd, 1) := by decide +kernel
theorem dX12_summedUp_78 : decode cX12_summedUp 78 = .ok (.iaload, 1) := by decide +kernel
theorem dX12_summedUp_79 : decode cX12_summedUp 79 = .ok (.istore 9, 2) := by decide +kernel
theorem dX12_summedUp_81 : decode cX12_summedUp 81 = .ok (.iload 8, 2) := by decide +kernel
theorem dX12_summedUp_83 : decode cX12_summedUp 83 = .ok (.iconst 1, 1) := by decide +kernel
theorem dX12_summedUp_84 : decode cX12_summedUp 84 = .ok (.if_icmp .gt 35, 3) := by decide +kernel
theorem dX12_summedUp_87 : decode cX12_summedUp 87 = .ok (.aload_n 0, 1) := by decide +kernel
theorem dX12_summedUp_88 : decode cX12_summedUp 88 = .ok (.getfield 35, 3) := by decide +kernel
theorem dX12_summedUp_91 : decode cX12_summedUp 91 = .ok (.iload 5, 2) := by decide +kernel
theorem dX12_summedUp_93 : decode cX12_summedUp 93 = .ok (.iload 8, 2) := by decide +kernel
theorem dX12_summedUp_95 : decode cX12_summedUp 95 = .ok (.ifCond .ne 9, 3) := by decide +kernel
theorem dX12_summedUp_98 : decode cX12_summedUp 98 = .ok (.iload 9, 2) := by decide +kernel
theorem dX12_summedUp_100 : decode cX12_summedUp 100 = .ok (.i2l, 1) := by decide +kernel
theorem dX12_summedUp_101 : decode cX12_summedUp 101 = .ok (.goto 11, 3) := by decide +kernel
theorem dX12_summedUp_104 : decode cX12_summedUp 104 = .ok (.aload_n 0, 1) := by decide +kernel
theorem dX12_summedUp_105 : decode cX12_summedUp 105 = .ok (.getfield 32, 3) := by decide +kernel
theorem dX12_summedUp_108 : decode cX12_summedUp 108 = .ok (.iload 9, 2) := by decide +kernel
theorem dX12_summedUp_110 : decode cX12_summedUp 110 = .ok (.iaload, 1) := by decide +kernel
theorem dX12_summedUp_111 : decode cX12_summedUp 111 = .ok (.i2l, 1) := by decide +kernel
theorem dX12_summedUp_112 : decode cX12_summedUp 112 = .ok (.lastore, 1) := by decide +kernel
theorem dX12_summedUp_113 : decode cX12_summedUp 113 = .ok (.iinc 5 1, 3) := by decide +kernel
theorem dX12_summedUp_116 : decode cX12_summedUp 116 = .ok (.goto 299, 3) := by decide +kernel
theorem dX12_summedUp_119 : decode cX12_summedUp 119 = .ok (.iload 8, 2) := by decide +kernel
theorem dX12_summedUp_121 : decode cX12_summedUp 121 = .ok (.iconst 3, 1) := by decide +kernel
theorem dX12_summedUp_122 : decode cX12_summedUp 122 = .ok (.if_icmp .ne 38, 3) := by decide +kernel
theorem dX12_summedUp_125 : decode cX12_summedUp 125 = .ok (.iinc 5 (-1), 3) := by decide +kernel
theorem dX12_summedUp_128 : decode cX12_summedUp 128 = .ok (.iinc 6 (-1), 3) := by decide +kernel
theorem dX12_summedUp_131 : decode cX12_summedUp 131 = .ok (.aload_n 0, 1) := by decide +kernel
theorem dX12_summedUp_132 : decode cX12_summedUp 132 = .ok (.getfield 39, 3) := by decide +kernel
theorem dX12_summedUp_135 : decode cX12_summedUp 135 = .ok (.iload 6, 2) := by decide +kernel
theorem dX12_summedUp_137 : decode cX12_summedUp 137 = .ok (.baload, 1) := by decide +kernel
theorem dX12_summedUp_138 : decode cX12_summedUp 138 = .ok (.ifCond .ne 277, 3) := by decide +kernel
theorem dX12_summedUp_141 : decode cX12_summedUp 141 = .ok (.aload_n 0, 1) := by decide +kernel
theorem dX12_summedUp_142 : decode cX12_summedUp 142 = .ok (.getfield 35, 3) := by decide +kernel
theorem dX12_summedUp_145 : decode cX12_summedUp 145 = .ok (.iload 5, 2) := by decide +kernel
theorem dX12_summedUp_147 : decode cX12_summedUp 147 = .ok (.iconst 1, 1) := by decide +kernel
theorem dX12_summedUp_148 : decode cX12_summedUp 148 = .ok (.isub, 1) := by decide +kernel
theorem dX12_summedUp_149 : decode cX12_summedUp 149 = .ok (.aload_n 0, 1) := by decide +kernel
theorem dX12_summedUp_150 : decode cX12_summedUp 150 = .ok (.getfield 35, 3) := by decide +kernel
theorem dX12_summedUp_153 : decode cX12_summedUp 153 = .ok (.iload 5, 2) := by decide +kernel
theorem dX12_summedUp_155 : decode cX12_summedUp 155 = .ok (.laload, 1) := by decide +kernel
theorem dX12_summedUp_156 : decode cX12_summedUp 156 = .ok (.lastore, 1) := by decide +kernel
theorem dX12_summedUp_157 : decode cX12_summedUp 157 = .ok (.goto 258, 3) := by decide +kernel
theorem dX12_summedUp_160 : decode cX12_summedUp 160 = .ok (.iload 8, 2) := by decide +kernel
theorem dX12_summedUp_162 : decode cX12_summedUp 162 = .ok (.iconst 4, 1) := by decide +kernel
theorem dX12_summedUp_163 : decode cX12_summedUp 163 = .ok (.if_icmp .ne 46, 3) := by decide +kernel
theorem dX12_summedUp_166 : decode cX12_summedUp 166 = .ok (.iinc 5 (-2), 3) := by decide +kernel
theorem dX12_summedUp_169 : decode cX12_summedUp 169 = .ok (.aload_n 0, 1) := by decide +kernel
theorem dX12_summedUp_170 : decode cX12_summedUp 170 = .ok (.getfield 35, 3) := by decide +kernel
theorem dX12_summedUp_173 : decode cX12_summedUp 173 = .ok (.iload 5, 2) := by decide +kernel
theorem dX12_summedUp_175 : decode cX12_summedUp 175 = .ok (.iconst 1, 1) := by decide +kernel
theorem dX12_summedUp_176 : decode cX12_summedUp 176 = .ok (.isub, 1) := by decide +kernel
theorem dX12_summedUp_177 : decode cX12_summedUp 177 = .ok (.aload_n 0, 1) := by decide +kernel
theorem dX12_summedUp_178 : decode cX12_summedUp 178 = .ok (.getfield 35, 3) := by decide +kernel
theorem dX12_summedUp_181 : decode cX12_summedUp 181 = .ok (.iload 5, 2) := by decide +kernel
theorem dX12_summedUp_183 : decode cX12_summedUp 183 = .ok (.iconst 1, 1) := by decide +kernel
theorem dX12_summedUp_184 : decode cX12_summedUp 184 = .ok (.isub, 1) := by decide +kernel
theorem dX12_summedUp_185 : decode cX12_summedUp 185 = .ok (.laload, 1) := by decide +kernel
theorem dX12_summedUp_186 : decode cX12_summedUp 186 = .ok (.aload_n 0, 1) := by decide +kernel
theorem dX12_summedUp_187 : decode cX12_summedUp 187 = .ok (.getfield 35, 3) := by decide +kernel
theorem dX12_summedUp_190 : decode cX12_summedUp 190 = .ok (.iload 5, 2) := by decide +kernel
theorem dX12_summedUp_192 : decode cX12_summedUp 192 = .ok (.laload, 1) := by decide +kernel
theorem dX12_summedUp_193 : decode cX12_summedUp 193 = .ok (.aload_n 0, 1) := by decide +kernel
theorem dX12_summedUp_194 : decode cX12_summedUp 194 = .ok (.getfield 35, 3) := by decide +kernel
theorem dX12_summedUp_197 : decode cX12_summedUp 197 = .ok (.iload 5, 2) := by decide +kernel
theorem dX12_summedUp_199 : decode cX12_summedUp 199 = .ok (.iconst 1, 1) := by decide +kernel
theorem dX12_summedUp_200 : decode cX12_summedUp 200 = .ok (.iadd, 1) := by decide +kernel
theorem dX12_summedUp_201 : decode cX12_summedUp 201 = .ok (.laload, 1) := by decide +kernel
theorem dX12_summedUp_202 : decode cX12_summedUp 202 = .ok (.invokestatic 283, 3) := by decide +kernel
theorem dX12_summedUp_205 : decode cX12_summedUp 205 = .ok (.lastore, 1) := by decide +kernel
theorem dX12_summedUp_206 : decode cX12_summedUp 206 = .ok (.goto 209, 3) := by decide +kernel
theorem dX12_summedUp_209 : decode cX12_summedUp 209 = .ok (.iload 8, 2) := by decide +kernel
theorem dX12_summedUp_211 : decode cX12_summedUp 211 = .ok (.iconst 5, 1) := by decide +kernel
theorem dX12_summedUp_212 : decode cX12_summedUp 212 = .ok (.if_icmp .gt 47, 3) := by decide +kernel
theorem dX12_summedUp_215 : decode cX12_summedUp 215 = .ok (.aload_n 0, 1) := by decide +kernel
theorem dX12_summedUp_216 : decode cX12_summedUp 216 = .ok (.getfield 35, 3) := by decide +kernel
theorem dX12_summedUp_219 : decode cX12_summedUp 219 = .ok (.iload 5, 2) := by decide +kernel
theorem dX12_summedUp_221 : decode cX12_summedUp 221 = .ok (.iconst 1, 1) := by decide +kernel
theorem dX12_summedUp_222 : decode cX12_summedUp 222 = .ok (.isub, 1) := by decide +kernel
theorem dX12_summedUp_223 : decode cX12_summedUp 223 = .ok (.iload 8, 2) := by decide +kernel
theorem dX12_summedUp_225 : decode cX12_summedUp 225 = .ok (.iconst 5, 1) := by decide +kernel
theorem dX12_summedUp_226 : decode cX12_summedUp 226 = .ok (.if_icmp .ne 16, 3) := by decide +kernel
theorem dX12_summedUp_229 : decode cX12_summedUp 229 = .ok (.aload_n 0, 1) := by decide +kernel
theorem dX12_summedUp_230 : decode cX12_summedUp 230 = .ok (.getfield 35, 3) := by decide +kernel
theorem dX12_summedUp_233 : decode cX12_summedUp 233 = .ok (.iload 5, 2) := by decide +kernel
theorem dX12_summedUp_235 : decode cX12_summedUp 235 = .ok (.iconst 1, 1) := by decide +kernel
theorem dX12_summedUp_236 : decode cX12_summedUp 236 = .ok (.isub, 1) := by decide +kernel
theorem dX12_summedUp_237 : decode cX12_summedUp 237 = .ok (.laload, 1) := by decide +kernel
theorem dX12_summedUp_238 : decode cX12_summedUp 238 = .ok (.lneg, 1) := by decide +kernel
theorem dX12_summedUp_239 : decode cX12_summedUp 239 = .ok (.goto 16, 3) := by decide +kernel
theorem dX12_summedUp_242 : decode cX12_summedUp 242 = .ok (.aload_n 0, 1) := by decide +kernel
theorem dX12_summedUp_243 : decode cX12_summedUp 243 = .ok (.aload_n 0, 1) := by decide +kernel
theorem dX12_summedUp_244 : decode cX12_summedUp 244 = .ok (.getfield 35, 3) := by decide +kernel
theorem dX12_summedUp_247 : decode cX12_summedUp 247 = .ok (.iload 5, 2) := by decide +kernel
theorem dX12_summedUp_249 : decode cX12_summedUp 249 = .ok (.iconst 1, 1) := by decide +kernel
theorem dX12_summedUp_250 : decode cX12_summedUp 250 = .ok (.isub, 1) := by decide +kernel
theorem dX12_summedUp_251 : decode cX12_summedUp 251 = .ok (.laload, 1) := by decide +kernel
theorem dX12_summedUp_252 : decode cX12_summedUp 252 = .ok (.invokevirtual 287, 3) := by decide +kernel
theorem dX12_summedUp_255 : decode cX12_summedUp 255 = .ok (.lastore, 1) := by decide +kernel
theorem dX12_summedUp_256 : decode cX12_summedUp 256 = .ok (.goto 159, 3) := by decide +kernel
theorem dX12_summedUp_259 : decode cX12_summedUp 259 = .ok (.iload 8, 2) := by decide +kernel
theorem dX12_summedUp_261 : decode cX12_summedUp 261 = .ok (.bipush 10, 2) := by decide +kernel
theorem dX12_summedUp_263 : decode cX12_summedUp 263 = .ok (.if_icmp .ge 39, 3) := by decide +kernel
theorem dX12_summedUp_266 : decode cX12_summedUp 266 = .ok (.iinc 5 (-1), 3) := by decide +kernel
theorem dX12_summedUp_269 : decode cX12_summedUp 269 = .ok (.aload_n 0, 1) := by decide +kernel
theorem dX12_summedUp_270 : decode cX12_summedUp 270 = .ok (.getfield 35, 3) := by decide +kernel
theorem dX12_summedUp_273 : decode cX12_summedUp 273 = .ok (.iload 5, 2) := by decide +kernel
theorem dX12_summedUp_275 : decode cX12_summedUp 275 = .ok (.iconst 1, 1) := by decide +kernel
theorem dX12_summedUp_276 : decode cX12_summedUp 276 = .ok (.isub, 1) := by decide +kernel
theorem dX12_summedUp_277 : decode cX12_summedUp 277 = .ok (.iload 8, 2) := by decide +kernel
theorem dX12_summedUp_279 : decode cX12_summedUp 279 = .ok (.aload_n 0, 1) := by decide +kernel
theorem dX12_summedUp_280 : decode cX12_summedUp 280 = .ok (.getfield 35, 3) := by decide +kernel
theorem dX12_summedUp_283 : decode cX12_summedUp 283 = .ok (.iload 5, 2) := by decide +kernel
theorem dX12_summedUp_285 : decode cX12_summedUp 285 = .ok (.iconst 1, 1) := by decide +kernel
theorem dX12_summedUp_286 : decode cX12_summedUp 286 = .ok (.isub, 1) := by decide +kernel
theorem dX12_summedUp_287 : decode cX12_summedUp 287 = .ok (.laload, 1) := by decide +kernel
theorem dX12_summedUp_288 : decode cX12_summedUp 288 = .ok (.aload_n 0, 1) := by decide +kernel
theorem dX12_summedUp_289 : decode cX12_summedUp 289 = .ok (.getfield 35, 3) := by decide +kernel
theorem dX12_summedUp_292 : decode cX12_summedUp 292 = .ok (.iload 5, 2) := by decide +kernel
theorem dX12_summedUp_294 : decode cX12_summedUp 294 = .ok (.laload, 1) := by decide +kernel
theorem dX12_summedUp_295 : decode cX12_summedUp 295 = .ok (.invokestatic 290, 3) := by decide +kernel
theorem dX12_summedUp_298 : decode cX12_summedUp 298 = .ok (.lastore, 1) := by decide +kernel
theorem dX12_summedUp_299 : decode cX12_summedUp 299 = .ok (.goto 116, 3) := by decide +kernel
theorem dX12_summedUp_302 : decode cX12_summedUp 302 = .ok (.iload 8, 2) := by decide +kernel
theorem dX12_summedUp_304 : decode cX12_summedUp 304 = .ok (.bipush 20, 2) := by decide +kernel
theorem dX12_summedUp_306 : decode cX12_summedUp 306 = .ok (.if_icmp .ge 40, 3) := by decide +kernel
theorem dX12_summedUp_309 : decode cX12_summedUp 309 = .ok (.iinc 5 (-2), 3) := by decide +kernel
theorem dX12_summedUp_312 : decode cX12_summedUp 312 = .ok (.aload_n 0, 1) := by decide +kernel
theorem dX12_summedUp_313 : decode cX12_summedUp 313 = .ok (.getfield 39, 3) := by decide +kernel
theorem dX12_summedUp_316 : decode cX12_summedUp 316 = .ok (.iload 6, 2) := by decide +kernel
theorem dX12_summedUp_318 : decode cX12_summedUp 318 = .ok (.iload 8, 2) := by decide +kernel
theorem dX12_summedUp_320 : decode cX12_summedUp 320 = .ok (.aload_n 0, 1) := by decide +kernel
theorem dX12_summedUp_321 : decode cX12_summedUp 321 = .ok (.getfield 35, 3) := by decide +kernel
theorem dX12_summedUp_324 : decode cX12_summedUp 324 = .ok (.iload 5, 2) := by decide +kernel
theorem dX12_summedUp_326 : decode cX12_summedUp 326 = .ok (.laload, 1) := by decide +kernel
theorem dX12_summedUp_327 : decode cX12_summedUp 327 = .ok (.aload_n 0, 1) := by decide +kernel
theorem dX12_summedUp_328 : decode cX12_summedUp 328 = .ok (.getfield 35, 3) := by decide +kernel
theorem dX12_summedUp_331 : decode cX12_summedUp 331 = .ok (.iload 5, 2) := by decide +kernel
theorem dX12_summedUp_333 : decode cX12_summedUp 333 = .ok (.iconst 1, 1) := by decide +kernel
theorem dX12_summedUp_334 : decode cX12_summedUp 334 = .ok (.iadd, 1) := by decide +kernel
theorem dX12_summedUp_335 : decode cX12_summedUp 335 = .ok (.laload, 1) := by decide +kernel
theorem dX12_summedUp_336 : decode cX12_summedUp 336 = .ok (.invokestatic 294, 3) := by decide +kernel
theorem dX12_summedUp_339 : decode cX12_summedUp 339 = .ok (.bastore, 1) := by decide +kernel
theorem dX12_summedUp_340 : decode cX12_summedUp 340 = .ok (.iinc 6 1, 3) := by decide +kernel
theorem dX12_summedUp_343 : decode cX12_summedUp 343 = .ok (.goto 72, 3) := by decide +kernel
theorem dX12_summedUp_346 : decode cX12_summedUp 346 = .ok (.iload 8, 2) := by decide +kernel
theorem dX12_summedUp_348 : decode cX12_summedUp 348 = .ok (.bipush 20, 2) := by decide +kernel
theorem dX12_summedUp_350 : decode cX12_summedUp 350 = .ok (.if_icmp .ne 32, 3) := by decide +kernel
theorem dX12_summedUp_353 : decode cX12_summedUp 353 = .ok (.aload_n 0, 1) := by decide +kernel
theorem dX12_summedUp_354 : decode cX12_summedUp 354 = .ok (.getfield 39, 3) := by decide +kernel
theorem dX12_summedUp_357 : decode cX12_summedUp 357 = .ok (.iload 6, 2) := by decide +kernel
theorem dX12_summedUp_359 : decode cX12_summedUp 359 = .ok (.iconst 1, 1) := by decide +kernel
theorem dX12_summedUp_360 : decode cX12_summedUp 360 = .ok (.isub, 1) := by decide +kernel
theorem dX12_summedUp_361 : decode cX12_summedUp 361 = .ok (.aload_n 0, 1) := by decide +kernel
theorem dX12_summedUp_362 : decode cX12_summedUp 362 = .ok (.getfield 39, 3) := by decide +kernel
theorem dX12_summedUp_365 : decode cX12_summedUp 365 = .ok (.iload 6, 2) := by decide +kernel
theorem dX12_summedUp_367 : decode cX12_summedUp 367 = .ok (.iconst 1, 1) := by decide +kernel
theorem dX12_summedUp_368 : decode cX12_summedUp 368 = .ok (.isub, 1) := by decide +kernel
theorem dX12_summedUp_369 : decode cX12_summedUp 369 = .ok (.baload, 1) := by decide +kernel
theorem dX12_summedUp_370 : decode cX12_summedUp 370 = .ok (.ifCond .ne 7, 3) := by decide +kernel
theorem dX12_summedUp_373 : decode cX12_summedUp 373 = .ok (.iconst 1, 1) := by decide +kernel
