set_option maxRecDepth 20000 in
theorem ggX0_init_X8_init : GoodIn wsX0_init wsX8_init := goodIn_r _ [26, 27, 2, 3, 4, 28, 29, 30, 54, 55, 56] rfl (by decide +kernel)
set_option maxRecDepth 20000 in
theorem gX0_init_X8_init_n17 : GoodIn wsX0_init (wsX8_init) := ggX0_init_X8_init
set_option maxRecDepth 20000 in
theorem ggX0_init_X11_put : GoodIn wsX0_init wsX11_put := goodIn_r _ [33] rfl (by decide +kernel)
set_option maxRecDepth 20000 in
theorem gX0_init_X11_put_n68 : GoodIn wsX0_init (wsX11_put) := ggX0_init_X11_put
set_option maxRecDepth 20000 in
theorem ggX0_init_J7_fill_53178 : GoodIn wsX0_init wsJ7_fill_53178 := goodIn_r _ [37] rfl (by decide +kernel)
set_option maxRecDepth 20000 in
theorem gX0_init_J7_fill_53178 : GoodIn wsX0_init (va_wsS RX0 72 yJ7_fill_53178 wsJ7_fill_53178) := goodIn_app (goodIn_of _ (by decide +kernel)) ggX0_init_J7_fill_53178
theorem dX0_init_0 : decode cX0_init 0 = .ok (.aload_n 0, 1) := by decide +kernel
theorem dX0_init_1 : decode cX0_init 1 = .ok (.invokespecial 3, 3) := by decide +kernel
theorem dX0_init_4 : decode cX0_init 4 = .ok (.aload_n 0, 1) := by decide +kernel
theorem dX0_init_5 : decode cX0_init 5 = .ok (.bipush 74, 2) := by decide +kernel
theorem dX0_init_7 : decode cX0_init 7 = .ok (.newarray .int, 2) := by decide +kernel
theorem dX0_init_9 : decode cX0_init 9 = .ok (.putfield 11, 3) := by decide +kernel
theorem dX0_init_12 : decode cX0_init 12 = .ok (.aload_n 0, 1) := by decide +kernel
theorem dX0_init_13 : decode cX0_init 13 = .ok (.new 15, 3) := by decide +kernel
theorem dX0_init_16 : decode cX0_init 16 = .ok (.dup, 1) := by decide +kernel
theorem dX0_init_17 : decode cX0_init 17 = .ok (.invokespecial 17, 3) := by decide +kernel
theorem dX0_init_20 : decode cX0_init 20 = .ok (.putfield 18, 3) := by decide +kernel
theorem dX0_init_23 : decode cX0_init 23 = .ok (.aload_n 0, 1) := by decide +kernel
theorem dX0_init_24 : decode cX0_init 24 = .ok (.bipush 6, 2) := by decide +kernel
theorem dX0_init_26 : decode cX0_init 26 = .ok (.newarray .int, 2) := by decide +kernel
theorem dX0_init_28 : decode cX0_init 28 = .ok (.putfield 22, 3) := by decide +kernel
theorem dX0_init_31 : decode cX0_init 31 = .ok (.aload_n 0, 1) := by decide +kernel
theorem dX0_init_32 : decode cX0_init 32 = .ok (.iconst 5, 1) := by decide +kernel
theorem dX0_init_33 : decode cX0_init 33 = .ok (.newarray .int, 2) := by decide +kernel
theorem dX0_init_35 : decode cX0_init 35 = .ok (.putfield 25, 3) := by decide +kernel
theorem dX0_init_38 : decode cX0_init 38 = .ok (.aload_n 0, 1) := by decide +kernel
theorem dX0_init_39 : decode cX0_init 39 = .ok (.iconst 5, 1) := by decide +kernel
theorem dX0_init_40 : decode cX0_init 40 = .ok (.newarray .int, 2) := by decide +kernel
theorem dX0_init_42 : decode cX0_init 42 = .ok (.putfield 28, 3) := by decide +kernel
theorem dX0_init_45 : decode cX0_init 45 = .ok (.aload_n 0, 1) := by decide +kernel
theorem dX0_init_46 : decode cX0_init 46 = .ok (.bipush 50, 2) := by decide +kernel
theorem dX0_init_48 : decode cX0_init 48 = .ok (.newarray .int, 2) := by decide +kernel
theorem dX0_init_50 : decode cX0_init 50 = .ok (.putfield 31, 3) := by decide +kernel
theorem dX0_init_53 : decode cX0_init 53 = .ok (.aload_n 0, 1) := by decide +kernel
theorem dX0_init_54 : decode cX0_init 54 = .ok (.iconst 4, 1) := by decide +kernel
theorem dX0_init_55 : decode cX0_init 55 = .ok (.anewarray 34, 3) := by decide +kernel
theorem dX0_init_58 : decode cX0_init 58 = .ok (.putfield 36, 3) := by decide +kernel
theorem dX0_init_61 : decode cX0_init 61 = .ok (.aload_n 0, 1) := by decide +kernel
theorem dX0_init_62 : decode cX0_init 62 = .ok (.iconst 0, 1) := by decide +kernel
theorem dX0_init_63 : decode cX0_init 63 = .ok (.putfield 40, 3) := by decide +kernel
theorem dX0_init_66 : decode cX0_init 66 = .ok (.aload_n 0, 1) := by decide +kernel
theorem dX0_init_67 : decode cX0_init 67 = .ok (.iconst (-1), 1) := by decide +kernel
theorem dX0_init_68 : decode cX0_init 68 = .ok (.putfield 44, 3) := by decide +kernel
theorem dX0_init_71 : decode cX0_init 71 = .ok (.aload_n 0, 1) := by decide +kernel
theorem dX0_init_72 : decode cX0_init 72 = .ok (.bipush 30, 2) := by decide +kernel
theorem dX0_init_74 : decode cX0_init 74 = .ok (.newarray .int, 2) := by decide +kernel
theorem dX0_init_76 : decode cX0_init 76 = .ok (.putfield 47, 3) := by decide +kernel
theorem dX0_init_79 : decode cX0_init 79 = .ok (.aload_n 0, 1) := by decide +kernel
theorem dX0_init_80 : decode cX0_init 80 = .ok (.bipush 8, 2) := by decide +kernel
theorem dX0_init_82 : decode cX0_init 82 = .ok (.newarray .int, 2) := by decide +kernel
theorem dX0_init_84 : decode cX0_init 84 = .ok (.putfield 50, 3) := by decide +kernel
theorem dX0_init_87 : decode cX0_init 87 = .ok (.aload_n 0, 1) := by decide +kernel
theorem dX0_init_88 : decode cX0_init 88 = .ok (.iconst 0, 1) := by decide +kernel
theorem dX0_init_89 : decode cX0_init 89 = .ok (.putfield 53, 3) := by decide +kernel
theorem dX0_init_92 : decode cX0_init 92 = .ok (.aload_n 0, 1) := by decide +kernel
theorem dX0_init_93 : decode cX0_init 93 = .ok (.bipush 16, 2) := by decide +kernel
theorem dX0_init_95 : decode cX0_init 95 = .ok (.newarray .int, 2) := by decide +kernel
theorem dX0_init_97 : decode cX0_init 97 = .ok (.putfield 56, 3) := by decide +kernel
theorem dX0_init_100 : decode cX0_init 100 = .ok (.aload_n 0, 1) := by decide +kernel
theorem dX0_init_101 : decode cX0_init 101 = .ok (.iconst 5, 1) := by decide +kernel
theorem dX0_init_102 : decode cX0_init 102 = .ok (.newarray .int, 2) := by decide +kernel
theorem dX0_init_104 : decode cX0_init 104 = .ok (.putfield 59, 3) := by decide +kernel
theorem dX0_init_107 : decode cX0_init 107 = .ok (.aload_n 0, 1) := by decide +kernel
theorem dX0_init_108 : decode cX0_init 108 = .ok (.bipush 8, 2) := by decide +kernel
theorem dX0_init_110 : decode cX0_init 110 = .ok (.newarray .int, 2) := by decide +kernel
theorem dX0_init_112 : decode cX0_init 112 = .ok (.putfield 62, 3) := by decide +kernel
theorem dX0_init_115 : decode cX0_init 115 = .ok (.aload_n 0, 1) := by decide +kernel
theorem dX0_init_116 : decode cX0_init 116 = .ok (.iconst 0, 1) := by decide +kernel
theorem dX0_init_117 : decode cX0_init 117 = .ok (.putfield 65, 3) := by decide +kernel
theorem dX0_init_120 : decode cX0_init 120 = .ok (.aload_n 0, 1) := by decide +kernel
theorem dX0_init_121 : decode cX0_init 121 = .ok (.getfield 11, 3) := by decide +kernel
theorem dX0_init_124 : decode cX0_init 124 = .ok (.bipush 40, 2) := by decide +kernel
theorem dX0_init_126 : decode cX0_init 126 = .ok (.sipush 179, 3) := by decide +kernel
theorem dX0_init_129 : decode cX0_init 129 = .ok (.invokestatic 68, 3) := by decide +kernel
theorem dX0_init_132 : decode cX0_init 132 = .ok (.aload_n 0, 1) := by decide +kernel
theorem dX0_init_133 : decode cX0_init 133 = .ok (.getfield 47, 3) := by decide +kernel
theorem dX0_init_136 : decode cX0_init 136 = .ok (.bipush 10, 2) := by decide +kernel
theorem dX0_init_138 : decode cX0_init 138 = .ok (.invokestatic 72, 3) := by decide +kernel
theorem dX0_init_141 : decode cX0_init 141 = .ok (.iconst 0, 1) := by decide +kernel
theorem dX0_init_142 : decode cX0_init 142 = .ok (.istore_n 1, 1) := by decide +kernel
theorem dX0_init_143 : decode cX0_init 143 = .ok (.iload_n 1, 1) := by decide +kernel
theorem dX0_init_144 : decode cX0_init 144 = .ok (.iconst 5, 1) := by decide +kernel
theorem dX0_init_145 : decode cX0_init 145 = .ok (.if_icmp .ge 44, 3) := by decide +kernel
theorem dX0_init_148 : decode cX0_init 148 = .ok (.iconst 0, 1) := by decide +kernel
theorem dX0_init_149 : decode cX0_init 149 = .ok (.istore_n 2, 1) := by decide +kernel
theorem dX0_init_150 : decode cX0_init 150 = .ok (.iload_n 2, 1) := by decide +kernel
theorem dX0_init_151 : decode cX0_init 151 = .ok (.bipush 10, 2) := by decide +kernel
theorem dX0_init_153 : decode cX0_init 153 = .ok (.if_icmp .ge 30, 3) := by decide +kernel
theorem dX0_init_156 : decode cX0_init 156 = .ok (.aload_n 0, 1) := by decide +kernel
theorem dX0_init_157 : decode cX0_init 157 = .ok (.getfield 31, 3) := by decide +kernel
theorem dX0_init_160 : decode cX0_init 160 = .ok (.iload_n 1, 1) := by decide +kernel
theorem dX0_init_161 : decode cX0_init 161 = .ok (.bipush 10, 2) := by decide +kernel
theorem dX0_init_163 : decode cX0_init 163 = .ok (.imul, 1) := by decide +kernel
theorem dX0_init_164 : decode cX0_init 164 = .ok (.iload_n 2, 1) := by decide +kernel
theorem dX0_init_165 : decode cX0_init 165 = .ok (.iadd, 1) := by decide +kernel
theorem dX0_init_166 : decode cX0_init 166 = .ok (.iload_n 2, 1) := by decide +kernel
theorem dX0_init_167 : decode cX0_init 167 = .ok (.iload_n 1, 1) := by decide +kernel
theorem dX0_init_168 : decode cX0_init 168 = .ok (.iadd, 1) := by decide +kernel
theorem dX0_init_169 : decode cX0_init 169 = .ok (.iconst 1, 1) := by decide +kernel
theorem dX0_init_170 : decode cX0_init 170 = .ok (.iadd, 1) := by decide +kernel
theorem dX0_init_171 : decode cX0_init 171 = .ok (.bipush 10, 2) := by decide +kernel
theorem dX0_init_173 : decode cX0_init 173 = .ok (.irem, 1) := by decide +kernel
theorem dX0_init_174 : decode cX0_init 174 = .ok (.invokestatic 68, 3) := by decide +kernel
theorem dX0_init_177 : decode cX0_init 177 = .ok (.iinc 2 1, 3) := by decide +kernel
theorem dX0_init_180 : decode cX0_init 180 = .ok (.goto (-30), 3) := by decide +kernel
theorem dX0_init_183 : decode cX0_init 183 = .ok (.iinc 1 1, 3) := by decide +kernel
theorem dX0_init_186 : decode cX0_init 186 = .ok (.goto (-43), 3) := by decide +kernel
theorem dX0_init_189 : decode cX0_init 189 = .ok (.return_, 1) := by decide +kernel
set_option maxRecDepth 20000 in
theorem ggX0_becomes_X11_copyWhole : GoodIn wsX0_becomes wsX11_copyWhole := goodIn_r _ [19, 20, 21, 18, 22, 23, 24, 25, 26] rfl (by decide +kernel)
set_option maxRecDepth 20000 in
theorem gX0_becomes_X11_copyWhole_n78 : GoodIn wsX0_becomes (wsX11_copyWhole) := ggX0_becomes_X11_copyWhole
set_option maxRecDepth 20000 in
theorem ggX0_becomes_X8_becomes : GoodIn wsX0_becomes wsX8_becomes := goodIn_r _ [31, 32, 33, 34, 17, 18, 19, 20, 21, 22, 23, 24, 25, 26, 51, 52, 53] rfl (by decide +kernel)
set_option maxRecDepth 20000 in
theorem gX0_becomes_X8_becomes : GoodIn wsX0_becomes (wsV RX0 82 RX8 yX8_becomes wsX8_becomes) := goodIn_app (goodIn_of _ (by decide +kernel)) ggX0_becomes_X8_becomes
theorem dX0_becomes_0 : decode cX0_becomes 0 = .ok (.aload_n 1, 1) := by decide +kernel
theorem dX0_becomes_1 : decode cX0_becomes 1 = .ok (.getfield 11, 3) := by decide +kernel
theorem dX0_becomes_4 : decode cX0_becomes 4 = .ok (.aload_n 0, 1) := by decide +kernel
theorem dX0_becomes_5 : decode cX0_becomes 5 = .ok (.getfield 11, 3) := by decide +kernel
theorem dX0_becomes_8 : decode cX0_becomes 8 = .ok (.invokestatic 78, 3) := by decide +kernel
theorem dX0_becomes_11 : decode cX0_becomes 11 = .ok (.aload_n 0, 1) := by decide +kernel
theorem dX0_becomes_12 : decode cX0_becomes 12 = .ok (.getfield 18, 3) := by decide +kernel
theorem dX0_becomes_15 : decode cX0_becomes 15 = .ok (.aload_n 1, 1) := by decide +kernel
theorem dX0_becomes_16 : decode cX0_becomes 16 = .ok (.getfield 18, 3) := by decide +kernel
theorem dX0_becomes_19 : decode cX0_becomes 19 = .ok (.invokevirtual 82, 3) := by decide +kernel
theorem dX0_becomes_22 : decode cX0_becomes 22 = .ok (.aload_n 1, 1) := by decide +kernel
theorem dX0_becomes_23 : decode cX0_becomes 23 = .ok (.getfield 22, 3) := by decide +kernel
theorem dX0_becomes_26 : decode cX0_becomes 26 = .ok (.aload_n 0, 1) := by decide +kernel
theorem dX0_becomes_27 : decode cX0_becomes 27 = .ok (.getfield 22, 3) := by decide +kernel
theorem dX0_becomes_30 : decode cX0_becomes 30 = .ok (.invokestatic 78, 3) := by decide +kernel
theorem dX0_becomes_33 : decode cX0_becomes 33 = .ok (.aload_n 1, 1) := by decide +kernel
theorem dX0_becomes_34 : decode cX0_becomes 34 = .ok (.getfield 25, 3) := by decide +kernel
theorem dX0_becomes_37 : decode cX0_becomes 37 = .ok (.aload_n 0, 1) := by decide +kernel
theorem dX0_becomes_38 : decode cX0_becomes 38 = .ok (.getfield 25, 3) := by decide +kernel
theorem dX0_becomes_41 : decode cX0_becomes 41 = .ok (.invokestatic 78, 3) := by decide +kernel
theorem dX0_becomes_44 : decode cX0_becomes 44 = .ok (.aload_n 1, 1) := by decide +kernel
theorem dX0_becomes_45 : decode cX0_becomes 45 = .ok (.getfield 28, 3) := by decide +kernel
theorem dX0_becomes_48 : decode cX0_becomes 48 = .ok (.aload_n 0, 1) := by decide +kernel
theorem dX0_becomes_49 : decode cX0_becomes 49 = .ok (.getfield 28, 3) := by decide +kernel
theorem dX0_becomes_52 : decode cX0_becomes 52 = .ok (.invokestatic 78, 3) := by decide +kernel
theorem dX0_becomes_55 : decode cX0_becomes 55 = .ok (.aload_n 1, 1) := by decide +kernel
theorem dX0_becomes_56 : decode cX0_becomes 56 = .ok (.getfield 31, 3) := by decide +kernel
theorem dX0_becomes_59 : decode cX0_becomes 59 = .ok (.aload_n 0, 1) := by decide +kernel
theorem dX0_becomes_60 : decode cX0_becomes 60 = .ok (.getfield 31, 3) := by decide +kernel
theorem dX0_becomes_63 : decode cX0_becomes 63 = .ok (.invokestatic 78, 3) := by decide +kernel
theorem dX0_becomes_66 : decode cX0_becomes 66 = .ok (.iconst 0, 1) := by decide +kernel
theorem dX0_becomes_67 : decode cX0_becomes 67 = .ok (.istore_n 2, 1) := by decide +kernel
theorem dX0_becomes_68 : decode cX0_becomes 68 = .ok (.iload_n 2, 1) := by decide +kernel
theorem dX0_becomes_69 : decode cX0_becomes 69 = .ok (.aload_n 0, 1) := by decide +kernel
theorem dX0_becomes_70 : decode cX0_becomes 70 = .ok (.getfield 36, 3) := by decide +kernel
theorem dX0_becomes_73 : decode cX0_becomes 73 = .ok (.arraylength, 1) := by decide +kernel
theorem dX0_becomes_74 : decode cX0_becomes 74 = .ok (.if_icmp .ge 30, 3) := by decide +kernel
theorem dX0_becomes_77 : decode cX0_becomes 77 = .ok (.iload_n 2, 1) := by decide +kernel
theorem dX0_becomes_78 : decode cX0_becomes 78 = .ok (.aload_n 1, 1) := by decide +kernel
theorem dX0_becomes_79 : decode cX0_becomes 79 = .ok (.getfield 36, 3) := by decide +kernel
theorem dX0_becomes_82 : decode cX0_becomes 82 = .ok (.arraylength, 1) := by decide +kernel
theorem dX0_becomes_83 : decode cX0_becomes 83 = .ok (.if_icmp .ge 21, 3) := by decide +kernel
theorem dX0_becomes_86 : decode cX0_becomes 86 = .ok (.aload_n 0, 1) := by decide +kernel
theorem dX0_becomes_87 : decode cX0_becomes 87 = .ok (.getfield 36, 3) := by decide +kernel
theorem dX0_becomes_90 : decode cX0_becomes 90 = .ok (.iload_n 2, 1) := by decide +kernel
theorem dX0_becomes_91 : decode cX0_becomes 91 = .ok (.aload_n 1, 1) := by decide +kernel
theorem dX0_becomes_92 : decode cX0_becomes 92 = .ok (.getfield 36, 3) := by decide +kernel
theorem dX0_becomes_95 : decode cX0_becomes 95 = .ok (.iload_n 2, 1) := by decide +kernel
theorem dX0_becomes_96 : decode cX0_becomes 96 = .ok (.aaload, 1) := by decide +kernel
theorem dX0_becomes_97 : decode cX0_becomes 97 = .ok (.aastore, 1) := by decide +kernel
theorem dX0_becomes_98 : decode cX0_becomes 98 = .ok (.iinc 2 1, 3) := by decide +kernel
theorem dX0_becomes_101 : decode cX0_becomes 101 = .ok (.goto (-33), 3) := by decide +kernel
theorem dX0_becomes_104 : decode cX0_becomes 104 = .ok (.aload_n 0, 1) := by decide +kernel
theorem dX0_becomes_105 : decode cX0_becomes 105 = .ok (.aload_n 1, 1) := by decide +kernel
theorem dX0_becomes_106 : decode cX0_becomes 106 = .ok (.getfield 40, 3) := by decide +kernel
theorem dX0_becomes_109 : decode cX0_becomes 109 = .ok (.putfield 40, 3) := by decide +kernel
theorem dX0_becomes_112 : decode cX0_becomes 112 = .ok (.aload_n 0, 1) := by decide +kernel
theorem dX0_becomes_113 : decode cX0_becomes 113 = .ok (.aload_n 1, 1) := by decide +kernel
theorem dX0_becomes_114 : decode cX0_becomes 114 = .ok (.getfield 44, 3) := by decide +kernel
theorem dX0_becomes_117 : decode cX0_becomes 117 = .ok (.putfield 44, 3) := by decide +kernel
theorem dX0_becomes_120 : decode cX0_becomes 120 = .ok (.aload_n 1, 1) := by decide +kernel
theorem dX0_becomes_121 : decode cX0_becomes 121 = .ok (.getfield 47, 3) := by decide +kernel
theorem dX0_becomes_124 : decode cX0_becomes 124 = .ok (.aload_n 0, 1) := by decide +kernel
theorem dX0_becomes_125 : decode cX0_becomes 125 = .ok (.getfield 47, 3) := by decide +kernel
theorem dX0_becomes_128 : decode cX0_becomes 128 = .ok (.invokestatic 78, 3) := by decide +kernel
theorem dX0_becomes_131 : decode cX0_becomes 131 = .ok (.aload_n 1, 1) := by decide +kernel
theorem dX0_becomes_132 : decode cX0_becomes 132 = .ok (.getfield 50, 3) := by decide +kernel
theorem dX0_becomes_135 : decode cX0_becomes 135 = .ok (.aload_n 0, 1) := by decide +kernel
theorem dX0_becomes_136 : decode cX0_becomes 136 = .ok (.getfield 50, 3) := by decide +kernel
theorem dX0_becomes_139 : decode cX0_becomes 139 = .ok (.invokestatic 78, 3) := by decide +kernel
theorem dX0_becomes_142 : decode cX0_becomes 142 = .ok (.aload_n 0, 1) := by decide +kernel
theorem dX0_becomes_143 : decode cX0_becomes 143 = .ok (.aload_n 1, 1) := by decide +kernel
theorem dX0_becomes_144 : decode cX0_becomes 144 = .ok (.getfield 53, 3) := by decide +kernel
theorem dX0_becomes_147 : decode cX0_becomes 147 = .ok (.putfield 53, 3) := by decide +kernel
theorem dX0_becomes_150 : decode cX0_becomes 150 = .ok (.aload_n 1, 1) := by decide +kernel
theorem dX0_becomes_151 : decode cX0_becomes 151 = .ok (.getfield 56, 3) := by decide +kernel
theorem dX0_becomes_154 : decode cX0_becomes 154 = .ok (.aload_n 0, 1) := by decide +kernel
theorem dX0_becomes_155 : decode cX0_becomes 155 = .ok (.getfield 56, 3) := by decide +kernel
theorem dX0_becomes_158 : decode cX0_becomes 158 = .ok (.invokestatic 78, 3) := by decide +kernel
theorem dX0_becomes_161 : decode cX0_becomes 161 = .ok (.aload_n 1, 1) := by decide +kernel
theorem dX0_becomes_162 : decode cX0_becomes 162 = .ok (.getfield 59, 3) := by decide +kernel
theorem dX0_becomes_165 : decode cX0_becomes 165 = .ok (.aload_n 0, 1) := by decide +kernel
theorem dX0_becomes_166 : decode cX0_becomes 166 = .ok (.getfield 59, 3) := by decide +kernel
theorem dX0_becomes_169 : decode cX0_becomes 169 = .ok (.invokestatic 78, 3) := by decide +kernel
theorem dX0_becomes_172 : decode cX0_becomes 172 = .ok (.aload_n 1, 1) := by decide +kernel
theorem dX0_becomes_173 : decode cX0_becomes 173 = .ok (.getfield 62, 3) := by decide +kernel
theorem dX0_becomes_176 : decode cX0_becomes 176 = .ok (.aload_n 0, 1) := by decide +kernel
theorem dX0_becomes_177 : decode cX0_becomes 177 = .ok (.getfield 62, 3) := by decide +kernel
theorem dX0_becomes_180 : decode cX0_becomes 180 = .ok (.invokestatic 78, 3) := by decide +kernel
theorem dX0_becomes_183 : decode cX0_becomes 183 = .ok (.aload_n 0, 1) := by decide +kernel
theorem dX0_becomes_184 : decode cX0_becomes 184 = .ok (.aload_n 1, 1) := by decide +kernel
theorem dX0_becomes_185 : decode cX0_becomes 185 = .ok (.getfield 65, 3) := by decide +kernel
theorem dX0_becomes_188 : decode cX0_becomes 188 = .ok (.putfield 65, 3) := by decide +kernel
theorem dX0_becomes_191 : decode cX0_becomes 191 = .ok (.return_, 1) := by decide +kernel
set_option maxRecDepth 20000 in
theorem ggX0_see_X11_at : GoodIn wsX0_see wsX11_at := goodIn_r _ [4] rfl (by decide +kernel)
set_option maxRecDepth 20000 in
theorem gX0_see_X11_at_n86 : GoodIn wsX0_see (wsX11_at) := ggX0_see_X11_at
theorem dX0_see_0 : decode cX0_see 0 = .ok (.aload_n 0, 1) := by decide +kernel
theorem dX0_see_1 : decode cX0_see 1 = .ok (.getfield 11, 3) := by decide +kernel
theorem dX0_see_4 : decode cX0_see 4 = .ok (.iload_n 1, 1) := by decide +kernel
theorem dX0_see_5 : decode cX0_see 5 = .ok (.iload_n 2, 1) := by decide +kernel
theorem dX0_see_6 : decode cX0_see 6 = .ok (.iadd, 1) := by decide +kernel
theorem dX0_see_7 : decode cX0_see 7 = .ok (.invokestatic 86, 3) := by decide +kernel
theorem dX0_see_10 : decode cX0_see 10 = .ok (.ireturn, 1) := by decide +kernel
set_option maxRecDepth 20000 in
theorem ggX0_set_X11_put : GoodIn wsX0_set wsX11_put := goodIn_r _ [4] rfl (by decide +kernel)
set_option maxRecDepth 20000 in
theorem gX0_set_X11_put_n68 : GoodIn wsX0_set (wsX11_put) := ggX0_set_X11_put
theorem dX0_set_0 : decode cX0_set 0 = .ok (.aload_n 0, 1) := by decide +kernel
theorem dX0_set_1 : decode cX0_set 1 = .ok (.getfield 11, 3) := by decide +kernel
theorem dX0_set_4 : decode cX0_set 4 = .ok (.iload_n 1, 1) := by decide +kernel
theorem dX0_set_5 : decode cX0_set 5 = .ok (.iload_n 2, 1) := by decide +kernel
theorem dX0_set_6 : decode cX0_set 6 = .ok (.iadd, 1) := by decide +kernel
theorem dX0_set_7 : decode cX0_set 7 = .ok (.iload_n 3, 1) := by decide +kernel
theorem dX0_set_8 : decode cX0_set 8 = .ok (.invokestatic 68, 3) := by decide +kernel
theorem dX0_set_11 : decode cX0_set 11 = .ok (.return_, 1) := by decide +kernel
set_option maxRecDepth 20000 in
theorem ggX0_today_X11_at : GoodIn wsX0_today wsX11_at := goodIn_r _ [4] rfl (by decide +kernel)
set_option maxRecDepth 20000 in
theorem gX0_today_X11_at_n86 : GoodIn wsX0_today (wsX11_at) := ggX0_today_X11_at
theorem dX0_today_0 : decode cX0_today 0 = .ok (.aload_n 0, 1) := by decide +kernel
theorem dX0_today_1 : decode cX0_today 1 = .ok (.getfield 11, 3) := by decide +kernel
theorem dX0_today_4 : decode cX0_today 4 = .ok (.bipush 39, 2) := by decide +kernel
theorem dX0_today_6 : decode cX0_today 6 = .ok (.invokestatic 86, 3) := by decide +kernel
theorem dX0_today_9 : decode cX0_today 9 = .ok (.ireturn, 1) := by decide +kernel
set_option maxRecDepth 20000 in
theorem ggX0_houseCount_X11_at : GoodIn wsX0_houseCount wsX11_at := goodIn_r _ [8] rfl (by decide +kernel)
set_option maxRecDepth 20000 in
theorem gX0_houseCount_X11_at_n86 : GoodIn wsX0_houseCount (wsX11_at) := ggX0_houseCount_X11_at
theorem dX0_houseCount_0 : decode cX0_houseCount 0 = .ok (.aload_n 0, 1) := by decide +kernel
theorem dX0_houseCount_1 : decode cX0_houseCount 1 = .ok (.getfield 11, 3) := by decide +kernel
theorem dX0_houseCount_4 : decode cX0_houseCount 4 = .ok (.bipush 72, 2) := by decide +kernel
theorem dX0_houseCount_6 : decode cX0_houseCount 6 = .ok (.invokestatic 86, 3) := by decide +kernel
theorem dX0_houseCount_9 : decode cX0_houseCount 9 = .ok (.bipush 6, 2) := by decide +kernel
theorem dX0_houseCount_11 : decode cX0_houseCount 11 = .ok (.invokestatic 90, 3) := by decide +kernel
theorem dX0_houseCount_14 : decode cX0_houseCount 14 = .ok (.ireturn, 1) := by decide +kernel
set_option maxRecDepth 20000 in
theorem ggX0_clownCount_X11_at : GoodIn wsX0_clownCount wsX11_at := goodIn_r _ [8] rfl (by decide +kernel)
set_option maxRecDepth 20000 in
theorem gX0_clownCount_X11_at_n86 : GoodIn wsX0_clownCount (wsX11_at) := ggX0_clownCount_X11_at
theorem dX0_clownCount_0 : decode cX0_clownCount 0 = .ok (.aload_n 0, 1) := by decide +kernel
theorem dX0_clownCount_1 : decode cX0_clownCount 1 = .ok (.getfield 11, 3) := by decide +kernel
theorem dX0_clownCount_4 : decode cX0_clownCount 4 = .ok (.bipush 73, 2) := by decide +kernel
theorem dX0_clownCount_6 : decode cX0_clownCount 6 = .ok (.invokestatic 86, 3) := by decide +kernel
theorem dX0_clownCount_9 : decode cX0_clownCount 9 = .ok (.iconst 5, 1) := by decide +kernel
theorem dX0_clownCount_10 : decode cX0_clownCount 10 = .ok (.invokestatic 90, 3) := by decide +kernel
theorem dX0_clownCount_13 : decode cX0_clownCount 13 = .ok (.ireturn, 1) := by decide +kernel
set_option maxRecDepth 20000 in
theorem ggX0_hasHouse_X11_at : GoodIn wsX0_hasHouse wsX11_at := goodIn_r _ [4] rfl (by decide +kernel)
set_option maxRecDepth 20000 in
theorem gX0_hasHouse_X11_at_n86 : GoodIn wsX0_hasHouse (wsX11_at) := ggX0_hasHouse_X11_at
theorem dX0_hasHouse_0 : decode cX0_hasHouse 0 = .ok (.iload_n 1, 1) := by decide +kernel
theorem dX0_hasHouse_1 : decode cX0_hasHouse 1 = .ok (.ifCond .lt 20, 3) := by decide +kernel
theorem dX0_hasHouse_4 : decode cX0_hasHouse 4 = .ok (.iload_n 1, 1) := by decide +kernel
theorem dX0_hasHouse_5 : decode cX0_hasHouse 5 = .ok (.aload_n 0, 1) := by decide +kernel
theorem dX0_hasHouse_6 : decode cX0_hasHouse 6 = .ok (.getfield 11, 3) := by decide +kernel
theorem dX0_hasHouse_9 : decode cX0_hasHouse 9 = .ok (.bipush 72, 2) := by decide +kernel
theorem dX0_hasHouse_11 : decode cX0_hasHouse 11 = .ok (.invokestatic 86, 3) := by decide +kernel
theorem dX0_hasHouse_14 : decode cX0_hasHouse 14 = .ok (.if_icmp .ge 7, 3) := by decide +kernel
theorem dX0_hasHouse_17 : decode cX0_hasHouse 17 = .ok (.iconst 1, 1) := by decide +kernel
theorem dX0_hasHouse_18 : decode cX0_hasHouse 18 = .ok (.goto 4, 3) := by decide +kernel
theorem dX0_hasHouse_21 : decode cX0_hasHouse 21 = .ok (.iconst 0, 1) := by decide +kernel
theorem dX0_hasHouse_22 : decode cX0_hasHouse 22 = .ok (.ireturn, 1) := by decide +kernel
set_option maxRecDepth 20000 in
theorem ggX0_hasClown_X11_at : GoodIn wsX0_hasClown wsX11_at := goodIn_r _ [4] rfl (by decide +kernel)
set_option maxRecDepth 20000 in
theorem gX0_hasClown_X11_at_n86 : GoodIn wsX0_hasClown (wsX11_at) := ggX0_hasClown_X11_at
theorem dX0_hasClown_0 : decode cX0_hasClown 0 = .ok (.iload_n 1, 1) := by decide +kernel
theorem dX0_hasClown_1 : decode cX0_hasClown 1 = .ok (.ifCond .lt 20, 3) := by decide +kernel
theorem dX0_hasClown_4 : decode cX0_hasClown 4 = .ok (.iload_n 1, 1) := by decide +kernel
theorem dX0_hasClown_5 : decode cX0_hasClown 5 = .ok (.aload_n 0, 1) := by decide +kernel
theorem dX0_hasClown_6 : decode cX0_hasClown 6 = .ok (.getfield 11, 3) := by decide +kernel
theorem dX0_hasClown_9 : decode cX0_hasClown 9 = .ok (.bipush 73, 2) := by decide +kernel
theorem dX0_hasClown_11 : decode cX0_hasClown 11 = .ok (.invokestatic 86, 3) := by decide +kernel
theorem dX0_hasClown_14 : decode cX0_hasClown 14 = .ok (.if_icmp .ge 7, 3) := by decide +kernel
theorem dX0_hasClown_17 : decode cX0_hasClown 17 = .ok (.iconst 1, 1) := by decide +kernel
theorem dX0_hasClown_18 : decode cX0_hasClown 18 = .ok (.goto 4, 3) := by decide +kernel
theorem dX0_hasClown_21 : decode cX0_hasClown 21 = .ok (.iconst 0, 1) := by decide +kernel
theorem dX0_hasClown_22 : decode cX0_hasClown 22 = .ok (.ireturn, 1) := by decide +kernel
set_option maxRecDepth 20000 in
theorem ggX0_isOut_X0_hasClown : GoodIn wsX0_isOut wsX0_hasClown := goodIn_r _ [5, 6, 7, 8, 9, 14, 15, 16, 17, 18, 19, 20, 21, 22, 23, 24, 25, 26, 27, 28, 29] rfl (by decide +kernel)
set_option maxRecDepth 20000 in
theorem gX0_isOut_X0_hasClown : GoodIn wsX0_isOut (wsV RX0 96 RX0 yX0_hasClown wsX0_hasClown) := goodIn_app (goodIn_of _ (by decide +kernel)) ggX0_isOut_X0_hasClown
set_option maxRecDepth 20000 in
theorem ggX0_isOut_X0_see : GoodIn wsX0_isOut wsX0_see := goodIn_r _ [13, 6, 7, 8, 9, 14, 15, 16, 17, 18, 19, 20, 21, 22, 23, 24, 25, 26, 27, 28, 29] rfl (by decide +kernel)
set_option maxRecDepth 20000 in
theorem gX0_isOut_X0_see : GoodIn wsX0_isOut (wsV RX0 100 RX0 yX0_see wsX0_see) := goodIn_app (goodIn_of _ (by decide +kernel)) ggX0_isOut_X0_see
theorem dX0_isOut_0 : decode cX0_isOut 0 = .ok (.aload_n 0, 1) := by decide +kernel
theorem dX0_isOut_1 : decode cX0_isOut 1 = .ok (.iload_n 1, 1) := by decide +kernel
theorem dX0_isOut_2 : decode cX0_isOut 2 = .ok (.invokevirtual 96, 3) := by decide +kernel
theorem dX0_isOut_5 : decode cX0_isOut 5 = .ok (.ifCond .eq 18, 3) := by decide +kernel
theorem dX0_isOut_8 : decode cX0_isOut 8 = .ok (.aload_n 0, 1) := by decide +kernel
theorem dX0_isOut_9 : decode cX0_isOut 9 = .ok (.bipush 29, 2) := by decide +kernel
theorem dX0_isOut_11 : decode cX0_isOut 11 = .ok (.iload_n 1, 1) := by decide +kernel
theorem dX0_isOut_12 : decode cX0_isOut 12 = .ok (.invokevirtual 100, 3) := by decide +kernel
theorem dX0_isOut_15 : decode cX0_isOut 15 = .ok (.iconst (-1), 1) := by decide +kernel
theorem dX0_isOut_16 : decode cX0_isOut 16 = .ok (.if_icmp .eq 7, 3) := by decide +kernel
theorem dX0_isOut_19 : decode cX0_isOut 19 = .ok (.iconst 1, 1) := by decide +kernel
theorem dX0_isOut_20 : decode cX0_isOut 20 = .ok (.goto 4, 3) := by decide +kernel
theorem dX0_isOut_23 : decode cX0_isOut 23 = .ok (.iconst 0, 1) := by decide +kernel
theorem dX0_isOut_24 : decode cX0_isOut 24 = .ok (.ireturn, 1) := by decide +kernel
set_option maxRecDepth 20000 in
theorem ggX0_addHouse_X11_at : GoodIn wsX0_addHouse wsX11_at := goodIn_r _ [5] rfl (by decide +kernel)
set_option maxRecDepth 20000 in
theorem gX0_addHouse_X11_at_n86 : GoodIn wsX0_addHouse (wsX11_at) := ggX0_addHouse_X11_at
set_option maxRecDepth 20000 in
theorem ggX0_addHouse_X11_put : GoodIn wsX0_addHouse wsX11_put := goodIn_r _ [7] rfl (by decide +kernel)
set_option maxRecDepth 20000 in
theorem gX0_addHouse_X11_put_n68 : GoodIn wsX0_addHouse (wsX11_put) := ggX0_addHouse_X11_put
set_option maxRecDepth 20000 in
theorem ggX0_addHouse_X0_set : GoodIn wsX0_addHouse wsX0_set := goodIn_r _ [12, 1, 6, 4, 7, 13, 14, 15, 16, 17, 18, 19, 20, 21, 22, 23, 24, 25, 26, 27, 28] rfl (by decide +kernel)
set_option maxRecDepth 20000 in
theorem gX0_addHouse_X0_set : GoodIn wsX0_addHouse (wsV RX0 103 RX0 yX0_set wsX0_set) := goodIn_app (goodIn_of _ (by decide +kernel)) ggX0_addHouse_X0_set
theorem dX0_addHouse_0 : decode cX0_addHouse 0 = .ok (.aload_n 0, 1) := by decide +kernel
theorem dX0_addHouse_1 : decode cX0_addHouse 1 = .ok (.getfield 11, 3) := by decide +kernel
theorem dX0_addHouse_4 : decode cX0_addHouse 4 = .ok (.bipush 72, 2) := by decide +kernel
theorem dX0_addHouse_6 : decode cX0_addHouse 6 = .ok (.invokestatic 86, 3) := by decide +kernel
theorem dX0_addHouse_9 : decode cX0_addHouse 9 = .ok (.istore_n 3, 1) := by decide +kernel
theorem dX0_addHouse_10 : decode cX0_addHouse 10 = .ok (.iload_n 3, 1) := by decide +kernel
theorem dX0_addHouse_11 : decode cX0_addHouse 11 = .ok (.bipush 6, 2) := by decide +kernel
theorem dX0_addHouse_13 : decode cX0_addHouse 13 = .ok (.if_icmp .lt 5, 3) := by decide +kernel
theorem dX0_addHouse_16 : decode cX0_addHouse 16 = .ok (.iconst (-1), 1) := by decide +kernel
theorem dX0_addHouse_17 : decode cX0_addHouse 17 = .ok (.ireturn, 1) := by decide +kernel
theorem dX0_addHouse_18 : decode cX0_addHouse 18 = .ok (.aload_n 0, 1) := by decide +kernel
theorem dX0_addHouse_19 : decode cX0_addHouse 19 = .ok (.getfield 22, 3) := by decide +kernel
theorem dX0_addHouse_22 : decode cX0_addHouse 22 = .ok (.iload_n 3, 1) := by decide +kernel
theorem dX0_addHouse_23 : decode cX0_addHouse 23 = .ok (.iload_n 1, 1) := by decide +kernel
theorem dX0_addHouse_24 : decode cX0_addHouse 24 = .ok (.invokestatic 68, 3) := by decide +kernel
theorem dX0_addHouse_27 : decode cX0_addHouse 27 = .ok (.aload_n 0, 1) := by decide +kernel
theorem dX0_addHouse_28 : decode cX0_addHouse 28 = .ok (.iconst 0, 1) := by decide +kernel
theorem dX0_addHouse_29 : decode cX0_addHouse 29 = .ok (.iload_n 3, 1) := by decide +kernel
theorem dX0_addHouse_30 : decode cX0_addHouse 30 = .ok (.iload_n 2, 1) := by decide +kernel
theorem dX0_addHouse_31 : decode cX0_addHouse 31 = .ok (.invokevirtual 103, 3) := by decide +kernel
theorem dX0_addHouse_34 : decode cX0_addHouse 34 = .ok (.aload_n 0, 1) := by decide +kernel
theorem dX0_addHouse_35 : decode cX0_addHouse 35 = .ok (.bipush 6, 2) := by decide +kernel
theorem dX0_addHouse_37 : decode cX0_addHouse 37 = .ok (.iload_n 3, 1) := by decide +kernel
theorem dX0_addHouse_38 : decode cX0_addHouse 38 = .ok (.iconst 0, 1) := by decide +kernel
theorem dX0_addHouse_39 : decode cX0_addHouse 39 = .ok (.invokevirtual 103, 3) := by decide +kernel
theorem dX0_addHouse_42 : decode cX0_addHouse 42 = .ok (.aload_n 0, 1) := by decide +kernel
theorem dX0_addHouse_43 : decode cX0_addHouse 43 = .ok (.bipush 12, 2) := by decide +kernel
theorem dX0_addHouse_45 : decode cX0_addHouse 45 = .ok (.iload_n 3, 1) := by decide +kernel
theorem dX0_addHouse_46 : decode cX0_addHouse 46 = .ok (.iconst (-1), 1) := by decide +kernel
theorem dX0_addHouse_47 : decode cX0_addHouse 47 = .ok (.invokevirtual 103, 3) := by decide +kernel
theorem dX0_addHouse_50 : decode cX0_addHouse 50 = .ok (.aload_n 0, 1) := by decide +kernel
theorem dX0_addHouse_51 : decode cX0_addHouse 51 = .ok (.bipush 18, 2) := by decide +kernel
theorem dX0_addHouse_53 : decode cX0_addHouse 53 = .ok (.iload_n 3, 1) := by decide +kernel
theorem dX0_addHouse_54 : decode cX0_addHouse 54 = .ok (.iconst 0, 1) := by decide +kernel
theorem dX0_addHouse_55 : decode cX0_addHouse 55 = .ok (.invokevirtual 103, 3) := by decide +kernel
theorem dX0_addHouse_58 : decode cX0_addHouse 58 = .ok (.aload_n 0, 1) := by decide +kernel
theorem dX0_addHouse_59 : decode cX0_addHouse 59 = .ok (.getfield 11, 3) := by decide +kernel
theorem dX0_addHouse_62 : decode cX0_addHouse 62 = .ok (.bipush 72, 2) := by decide +kernel
theorem dX0_addHouse_64 : decode cX0_addHouse 64 = .ok (.iload_n 3, 1) := by decide +kernel
theorem dX0_addHouse_65 : decode cX0_addHouse 65 = .ok (.iconst 1, 1) := by decide +kernel
theorem dX0_addHouse_66 : decode cX0_addHouse 66 = .ok (.iadd, 1) := by decide +kernel
theorem dX0_addHouse_67 : decode cX0_addHouse 67 = .ok (.invokestatic 68, 3) := by decide +kernel
theorem dX0_addHouse_70 : decode cX0_addHouse 70 = .ok (.iload_n 3, 1) := by decide +kernel
theorem dX0_addHouse_71 : decode cX0_addHouse 71 = .ok (.ireturn, 1) := by decide +kernel
set_option maxRecDepth 20000 in
theorem ggX0_addClown_X11_at : GoodIn wsX0_addClown wsX11_at := goodIn_r _ [6] rfl (by decide +kernel)
set_option maxRecDepth 20000 in
theorem gX0_addClown_X11_at_n86 : GoodIn wsX0_addClown (wsX11_at) := ggX0_addClown_X11_at
set_option maxRecDepth 20000 in
theorem ggX0_addClown_X11_put : GoodIn wsX0_addClown wsX11_put := goodIn_r _ [8] rfl (by decide +kernel)
set_option maxRecDepth 20000 in
theorem gX0_addClown_X11_put_n68 : GoodIn wsX0_addClown (wsX11_put) := ggX0_addClown_X11_put
set_option maxRecDepth 20000 in
theorem ggX0_addClown_X0_set : GoodIn wsX0_addClown wsX0_set := goodIn_r _ [13, 1, 7, 5, 8, 14, 15, 16, 17, 18, 19, 20, 21, 22, 23, 24, 25, 26, 27, 28, 29] rfl (by decide +kernel)
set_option maxRecDepth 20000 in
theorem gX0_addClown_X0_set : GoodIn wsX0_addClown (wsV RX0 103 RX0 yX0_set wsX0_set) := goodIn_app (goodIn_of _ (by decide +kernel)) ggX0_addClown_X0_set
theorem dX0_addClown_0 : decode cX0_addClown 0 = .ok (.aload_n 0, 1) := by decide +kernel
theorem dX0_addClown_1 : decode cX0_addClown 1 = .ok (.getfield 11, 3) := by decide +kernel
theorem dX0_addClown_4 : decode cX0_addClown 4 = .ok (.bipush 73, 2) := by decide +kernel
theorem dX0_addClown_6 : decode cX0_addClown 6 = .ok (.invokestatic 86, 3) := by decide +kernel
theorem dX0_addClown_9 : decode cX0_addClown 9 = .ok (.istore_n 3, 1) := by decide +kernel
theorem dX0_addClown_10 : decode cX0_addClown 10 = .ok (.iload_n 3, 1) := by decide +kernel
theorem dX0_addClown_11 : decode cX0_addClown 11 = .ok (.iconst 5, 1) := by decide +kernel
theorem dX0_addClown_12 : decode cX0_addClown 12 = .ok (.if_icmp .lt 5, 3) := by decide +kernel
theorem dX0_addClown_15 : decode cX0_addClown 15 = .ok (.iconst (-1), 1) := by decide +kernel
theorem dX0_addClown_16 : decode cX0_addClown 16 = .ok (.ireturn, 1) := by decide +kernel
theorem dX0_addClown_17 : decode cX0_addClown 17 = .ok (.aload_n 0, 1) := by decide +kernel
theorem dX0_addClown_18 : decode cX0_addClown 18 = .ok (.getfield 25, 3) := by decide +kernel
theorem dX0_addClown_21 : decode cX0_addClown 21 = .ok (.iload_n 3, 1) := by decide +kernel
theorem dX0_addClown_22 : decode cX0_addClown 22 = .ok (.iload_n 1, 1) := by decide +kernel
theorem dX0_addClown_23 : decode cX0_addClown 23 = .ok (.invokestatic 68, 3) := by decide +kernel
theorem dX0_addClown_26 : decode cX0_addClown 26 = .ok (.aload_n 0, 1) := by decide +kernel
theorem dX0_addClown_27 : decode cX0_addClown 27 = .ok (.getfield 28, 3) := by decide +kernel
theorem dX0_addClown_30 : decode cX0_addClown 30 = .ok (.iload_n 3, 1) := by decide +kernel
theorem dX0_addClown_31 : decode cX0_addClown 31 = .ok (.iload_n 2, 1) := by decide +kernel
theorem dX0_addClown_32 : decode cX0_addClown 32 = .ok (.invokestatic 68, 3) := by decide +kernel
theorem dX0_addClown_35 : decode cX0_addClown 35 = .ok (.aload_n 0, 1) := by decide +kernel
theorem dX0_addClown_36 : decode cX0_addClown 36 = .ok (.bipush 24, 2) := by decide +kernel
theorem dX0_addClown_38 : decode cX0_addClown 38 = .ok (.iload_n 3, 1) := by decide +kernel
theorem dX0_addClown_39 : decode cX0_addClown 39 = .ok (.iconst 0, 1) := by decide +kernel
theorem dX0_addClown_40 : decode cX0_addClown 40 = .ok (.invokevirtual 103, 3) := by decide +kernel
theorem dX0_addClown_43 : decode cX0_addClown 43 = .ok (.aload_n 0, 1) := by decide +kernel
theorem dX0_addClown_44 : decode cX0_addClown 44 = .ok (.bipush 29, 2) := by decide +kernel
theorem dX0_addClown_46 : decode cX0_addClown 46 = .ok (.iload_n 3, 1) := by decide +kernel
theorem dX0_addClown_47 : decode cX0_addClown 47 = .ok (.iconst (-1), 1) := by decide +kernel
theorem dX0_addClown_48 : decode cX0_addClown 48 = .ok (.invokevirtual 103, 3) := by decide +kernel
theorem dX0_addClown_51 : decode cX0_addClown 51 = .ok (.aload_n 0, 1) := by decide +kernel
theorem dX0_addClown_52 : decode cX0_addClown 52 = .ok (.bipush 34, 2) := by decide +kernel
theorem dX0_addClown_54 : decode cX0_addClown 54 = .ok (.iload_n 3, 1) := by decide +kernel
theorem dX0_addClown_55 : decode cX0_addClown 55 = .ok (.iconst 0, 1) := by decide +kernel
theorem dX0_addClown_56 : decode cX0_addClown 56 = .ok (.invokevirtual 103, 3) := by decide +kernel
theorem dX0_addClown_59 : decode cX0_addClown 59 = .ok (.aload_n 0, 1) := by decide +kernel
theorem dX0_addClown_60 : decode cX0_addClown 60 = .ok (.getfield 11, 3) := by decide +kernel
theorem dX0_addClown_63 : decode cX0_addClown 63 = .ok (.bipush 73, 2) := by decide +kernel
theorem dX0_addClown_65 : decode cX0_addClown 65 = .ok (.iload_n 3, 1) := by decide +kernel
theorem dX0_addClown_66 : decode cX0_addClown 66 = .ok (.iconst 1, 1) := by decide +kernel
theorem dX0_addClown_67 : decode cX0_addClown 67 = .ok (.iadd, 1) := by decide +kernel
theorem dX0_addClown_68 : decode cX0_addClown 68 = .ok (.invokestatic 68, 3) := by decide +kernel
theorem dX0_addClown_71 : decode cX0_addClown 71 = .ok (.iload_n 3, 1) := by decide +kernel
theorem dX0_addClown_72 : decode cX0_addClown 72 = .ok (.ireturn, 1) := by decide +kernel
theorem dX0_addText_0 : decode cX0_addText 0 = .ok (.aload_n 0, 1) := by decide +kernel
theorem dX0_addText_1 : decode cX0_addText 1 = .ok (.getfield 40, 3) := by decide +kernel
theorem dX0_addText_4 : decode cX0_addText 4 = .ok (.istore_n 2, 1) := by decide +kernel
theorem dX0_addText_5 : decode cX0_addText 5 = .ok (.iload_n 2, 1) := by decide +kernel
theorem dX0_addText_6 : decode cX0_addText 6 = .ok (.ifCond .lt 12, 3) := by decide +kernel
theorem dX0_addText_9 : decode cX0_addText 9 = .ok (.iload_n 2, 1) := by decide +kernel
theorem dX0_addText_10 : decode cX0_addText 10 = .ok (.aload_n 0, 1) := by decide +kernel
theorem dX0_addText_11 : decode cX0_addText 11 = .ok (.getfield 36, 3) := by decide +kernel
theorem dX0_addText_14 : decode cX0_addText 14 = .ok (.arraylength, 1) := by decide +kernel
theorem dX0_addText_15 : decode cX0_addText 15 = .ok (.if_icmp .lt 5, 3) := by decide +kernel
theorem dX0_addText_18 : decode cX0_addText 18 = .ok (.iconst (-1), 1) := by decide +kernel
theorem dX0_addText_19 : decode cX0_addText 19 = .ok (.ireturn, 1) := by decide +kernel
theorem dX0_addText_20 : decode cX0_addText 20 = .ok (.aload_n 0, 1) := by decide +kernel
theorem dX0_addText_21 : decode cX0_addText 21 = .ok (.getfield 36, 3) := by decide +kernel
theorem dX0_addText_24 : decode cX0_addText 24 = .ok (.iload_n 2, 1) := by decide +kernel
theorem dX0_addText_25 : decode cX0_addText 25 = .ok (.aload_n 1, 1) := by decide +kernel
theorem dX0_addText_26 : decode cX0_addText 26 = .ok (.aastore, 1) := by decide +kernel
theorem dX0_addText_27 : decode cX0_addText 27 = .ok (.aload_n 0, 1) := by decide +kernel
theorem dX0_addText_28 : decode cX0_addText 28 = .ok (.dup, 1) := by decide +kernel
theorem dX0_addText_29 : decode cX0_addText 29 = .ok (.getfield 40, 3) := by decide +kernel
theorem dX0_addText_32 : decode cX0_addText 32 = .ok (.iconst 1, 1) := by decide +kernel
theorem dX0_addText_33 : decode cX0_addText 33 = .ok (.iadd, 1) := by decide +kernel
theorem dX0_addText_34 : decode cX0_addText 34 = .ok (.putfield 40, 3) := by decide +kernel
theorem dX0_addText_37 : decode cX0_addText 37 = .ok (.iload_n 2, 1) := by decide +kernel
theorem dX0_addText_38 : decode cX0_addText 38 = .ok (.ireturn, 1) := by decide +kernel
theorem dX0_textAt_0 : decode cX0_textAt 0 = .ok (.iload_n 1, 1) := by decide +kernel
theorem dX0_textAt_1 : decode cX0_textAt 1 = .ok (.ifCond .lt 29, 3) := by decide +kernel
theorem dX0_textAt_4 : decode cX0_textAt 4 = .ok (.iload_n 1, 1) := by decide +kernel
theorem dX0_textAt_5 : decode cX0_textAt 5 = .ok (.aload_n 0, 1) := by decide +kernel
theorem dX0_textAt_6 : decode cX0_textAt 6 = .ok (.getfield 40, 3) := by decide +kernel
theorem dX0_textAt_9 : decode cX0_textAt 9 = .ok (.if_icmp .ge 21, 3) := by decide +kernel
theorem dX0_textAt_12 : decode cX0_textAt 12 = .ok (.iload_n 1, 1) := by decide +kernel
theorem dX0_textAt_13 : decode cX0_textAt 13 = .ok (.aload_n 0, 1) := by decide +kernel
theorem dX0_textAt_14 : decode cX0_textAt 14 = .ok (.getfield 36, 3) := by decide +kernel
theorem dX0_textAt_17 : decode cX0_textAt 17 = .ok (.arraylength, 1) := by decide +kernel
theorem dX0_textAt_18 : decode cX0_textAt 18 = .ok (.if_icmp .ge 12, 3) := by decide +kernel
theorem dX0_textAt_21 : decode cX0_textAt 21 = .ok (.aload_n 0, 1) := by decide +kernel
theorem dX0_textAt_22 : decode cX0_textAt 22 = .ok (.getfield 36, 3) := by decide +kernel
theorem dX0_textAt_25 : decode cX0_textAt 25 = .ok (.iload_n 1, 1) := by decide +kernel
theorem dX0_textAt_26 : decode cX0_textAt 26 = .ok (.aaload, 1) := by decide +kernel
theorem dX0_textAt_27 : decode cX0_textAt 27 = .ok (.goto 4, 3) := by decide +kernel
theorem dX0_textAt_30 : decode cX0_textAt 30 = .ok (.aconst_null, 1) := by decide +kernel
theorem dX0_textAt_31 : decode cX0_textAt 31 = .ok (.areturn, 1) := by decide +kernel
set_option maxRecDepth 20000 in
theorem ggX0_turned_X11_at : GoodIn wsX0_turned wsX11_at := goodIn_r _ [4] rfl (by decide +kernel)
set_option maxRecDepth 20000 in
theorem gX0_turned_X11_at_n86 : GoodIn wsX0_turned (wsX11_at) := ggX0_turned_X11_at
theorem dX0_turned_0 : decode cX0_turned 0 = .ok (.aload_n 0, 1) := by decide +kernel
theorem dX0_turned_1 : decode cX0_turned 1 = .ok (.getfield 31, 3) := by decide +kernel
theorem dX0_turned_4 : decode cX0_turned 4 = .ok (.iload_n 1, 1) := by decide +kernel
theorem dX0_turned_5 : decode cX0_turned 5 = .ok (.bipush 10, 2) := by decide +kernel
theorem dX0_turned_7 : decode cX0_turned 7 = .ok (.imul, 1) := by decide +kernel
theorem dX0_turned_8 : decode cX0_turned 8 = .ok (.iload_n 2, 1) := by decide +kernel
theorem dX0_turned_9 : decode cX0_turned 9 = .ok (.iadd, 1) := by decide +kernel
theorem dX0_turned_10 : decode cX0_turned 10 = .ok (.invokestatic 86, 3) := by decide +kernel
theorem dX0_turned_13 : decode cX0_turned 13 = .ok (.ireturn, 1) := by decide +kernel
set_option maxRecDepth 20000 in
theorem ggX0_turnedSet_X0_turned : GoodIn wsX0_turnedSet wsX0_turned := goodIn_r _ [5, 6, 7, 8, 9, 10, 11, 12, 13, 14, 15, 16, 17, 18, 19, 20, 21, 22, 23, 24, 25] rfl (by decide +kernel)
set_option maxRecDepth 20000 in
theorem gX0_turnedSet_X0_turned : GoodIn wsX0_turnedSet (wsV RX0 107 RX0 yX0_turned wsX0_turned) := goodIn_app (goodIn_of _ (by decide +kernel)) ggX0_turnedSet_X0_turned
theorem dX0_turnedSet_0 : decode cX0_turnedSet 0 = .ok (.iconst 0, 1) := by decide +kernel
theorem dX0_turnedSet_1 : decode cX0_turnedSet 1 = .ok (.istore_n 3, 1) := by decide +kernel
theorem dX0_turnedSet_2 : decode cX0_turnedSet 2 = .ok (.iconst 0, 1) := by decide +kernel
theorem dX0_turnedSet_3 : decode cX0_turnedSet 3 = .ok (.istore 4, 2) := by decide +kernel
theorem dX0_turnedSet_5 : decode cX0_turnedSet 5 = .ok (.iload 4, 2) := by decide +kernel
theorem dX0_turnedSet_7 : decode cX0_turnedSet 7 = .ok (.bipush 10, 2) := by decide +kernel
theorem dX0_turnedSet_9 : decode cX0_turnedSet 9 = .ok (.if_icmp .ge 31, 3) := by decide +kernel
theorem dX0_turnedSet_12 : decode cX0_turnedSet 12 = .ok (.iload_n 2, 1) := by decide +kernel
theorem dX0_turnedSet_13 : decode cX0_turnedSet 13 = .ok (.iload 4, 2) := by decide +kernel
theorem dX0_turnedSet_15 : decode cX0_turnedSet 15 = .ok (.ishr, 1) := by decide +kernel
theorem dX0_turnedSet_16 : decode cX0_turnedSet 16 = .ok (.iconst 1, 1) := by decide +kernel
theorem dX0_turnedSet_17 : decode cX0_turnedSet 17 = .ok (.iand, 1) := by decide +kernel
theorem dX0_turnedSet_18 : decode cX0_turnedSet 18 = .ok (.iconst 1, 1) := by decide +kernel
theorem dX0_turnedSet_19 : decode cX0_turnedSet 19 = .ok (.if_icmp .ne 15, 3) := by decide +kernel
theorem dX0_turnedSet_22 : decode cX0_turnedSet 22 = .ok (.iload_n 3, 1) := by decide +kernel
theorem dX0_turnedSet_23 : decode cX0_turnedSet 23 = .ok (.iconst 1, 1) := by decide +kernel
theorem dX0_turnedSet_24 : decode cX0_turnedSet 24 = .ok (.aload_n 0, 1) := by decide +kernel
theorem dX0_turnedSet_25 : decode cX0_turnedSet 25 = .ok (.iload_n 1, 1) := by decide +kernel
theorem dX0_turnedSet_26 : decode cX0_turnedSet 26 = .ok (.iload 4, 2) := by decide +kernel
theorem dX0_turnedSet_28 : decode cX0_turnedSet 28 = .ok (.invokevirtual 107, 3) := by decide +kernel
theorem dX0_turnedSet_31 : decode cX0_turnedSet 31 = .ok (.ishl, 1) := by decide +kernel
theorem dX0_turnedSet_32 : decode cX0_turnedSet 32 = .ok (.ior, 1) := by decide +kernel
theorem dX0_turnedSet_33 : decode cX0_turnedSet 33 = .ok (.istore_n 3, 1) := by decide +kernel
theorem dX0_turnedSet_34 : decode cX0_turnedSet 34 = .ok (.iinc 4 1, 3) := by decide +kernel
theorem dX0_turnedSet_37 : decode cX0_turnedSet 37 = .ok (.goto (-32), 3) := by decide +kernel
theorem dX0_turnedSet_40 : decode cX0_turnedSet 40 = .ok (.iload_n 3, 1) := by decide +kernel
theorem dX0_turnedSet_41 : decode cX0_turnedSet 41 = .ok (.ireturn, 1) := by decide +kernel
set_option maxRecDepth 20000 in
theorem ggX0_clownsAt_X0_clownCount : GoodIn wsX0_clownsAt wsX0_clownCount := goodIn_r _ [5, 6, 7, 8, 9, 10, 11, 12, 13, 18, 19, 20, 21, 22, 23, 24, 25, 26, 27, 28, 29, 30, 31, 32, 33] rfl (by decide +kernel)
set_option maxRecDepth 20000 in
theorem gX0_clownsAt_X0_clownCount : GoodIn wsX0_clownsAt (wsV RX0 110 RX0 yX0_clownCount wsX0_clownCount) := goodIn_app (goodIn_of _ (by decide +kernel)) ggX0_clownsAt_X0_clownCount
set_option maxRecDepth 20000 in
theorem ggX0_clownsAt_X0_see : GoodIn wsX0_clownsAt wsX0_see := goodIn_r _ [17, 6, 11, 12, 13, 18, 19, 20, 21, 22, 23, 24, 25, 26, 27, 28, 29, 30, 31, 32, 33] rfl (by decide +kernel)
set_option maxRecDepth 20000 in
theorem gX0_clownsAt_X0_see : GoodIn wsX0_clownsAt (wsV RX0 100 RX0 yX0_see wsX0_see) := goodIn_app (goodIn_of _ (by decide +kernel)) ggX0_clownsAt_X0_see
theorem dX0_clownsAt_0 : decode cX0_clownsAt 0 = .ok (.iconst 0, 1) := by decide +kernel
theorem dX0_clownsAt_1 : decode cX0_clownsAt 1 = .ok (.istore_n 2, 1) := by decide +kernel
theorem dX0_clownsAt_2 : decode cX0_clownsAt 2 = .ok (.iconst 0, 1) := by decide +kernel
theorem dX0_clownsAt_3 : decode cX0_clownsAt 3 = .ok (.istore_n 3, 1) := by decide +kernel
theorem dX0_clownsAt_4 : decode cX0_clownsAt 4 = .ok (.iload_n 3, 1) := by decide +kernel
theorem dX0_clownsAt_5 : decode cX0_clownsAt 5 = .ok (.aload_n 0, 1) := by decide +kernel
theorem dX0_clownsAt_6 : decode cX0_clownsAt 6 = .ok (.invokevirtual 110, 3) := by decide +kernel
theorem dX0_clownsAt_9 : decode cX0_clownsAt 9 = .ok (.if_icmp .ge 26, 3) := by decide +kernel
theorem dX0_clownsAt_12 : decode cX0_clownsAt 12 = .ok (.aload_n 0, 1) := by decide +kernel
theorem dX0_clownsAt_13 : decode cX0_clownsAt 13 = .ok (.bipush 29, 2) := by decide +kernel
theorem dX0_clownsAt_15 : decode cX0_clownsAt 15 = .ok (.iload_n 3, 1) := by decide +kernel
theorem dX0_clownsAt_16 : decode cX0_clownsAt 16 = .ok (.invokevirtual 100, 3) := by decide +kernel
theorem dX0_clownsAt_19 : decode cX0_clownsAt 19 = .ok (.iload_n 1, 1) := by decide +kernel
theorem dX0_clownsAt_20 : decode cX0_clownsAt 20 = .ok (.if_icmp .ne 9, 3) := by decide +kernel
theorem dX0_clownsAt_23 : decode cX0_clownsAt 23 = .ok (.iload_n 2, 1) := by decide +kernel
theorem dX0_clownsAt_24 : decode cX0_clownsAt 24 = .ok (.iconst 1, 1) := by decide +kernel
theorem dX0_clownsAt_25 : decode cX0_clownsAt 25 = .ok (.iload_n 3, 1) := by decide +kernel
theorem dX0_clownsAt_26 : decode cX0_clownsAt 26 = .ok (.ishl, 1) := by decide +kernel
theorem dX0_clownsAt_27 : decode cX0_clownsAt 27 = .ok (.ior, 1) := by decide +kernel
theorem dX0_clownsAt_28 : decode cX0_clownsAt 28 = .ok (.istore_n 2, 1) := by decide +kernel
theorem dX0_clownsAt_29 : decode cX0_clownsAt 29 = .ok (.iinc 3 1, 3) := by decide +kernel
theorem dX0_clownsAt_32 : decode cX0_clownsAt 32 = .ok (.goto (-28), 3) := by decide +kernel
theorem dX0_clownsAt_35 : decode cX0_clownsAt 35 = .ok (.iload_n 2, 1) := by decide +kernel
theorem dX0_clownsAt_36 : decode cX0_clownsAt 36 = .ok (.ireturn, 1) := by decide +kernel
set_option maxRecDepth 20000 in
theorem ggX0_allGrief_X0_houseCount : GoodIn wsX0_allGrief wsX0_houseCount := goodIn_r _ [5, 6, 7, 8, 9, 10, 11, 12, 13, 18, 19, 20, 21, 22, 23, 24, 25, 26, 27, 28, 29, 30, 31, 32, 33] rfl (by decide +kernel)
set_option maxRecDepth 20000 in
theorem gX0_allGrief_X0_houseCount : GoodIn wsX0_allGrief (wsV RX0 114 RX0 yX0_houseCount wsX0_houseCount) := goodIn_app (goodIn_of _ (by decide +kernel)) ggX0_allGrief_X0_houseCount
set_option maxRecDepth 20000 in
theorem ggX0_allGrief_X0_see : GoodIn wsX0_allGrief wsX0_see := goodIn_r _ [17, 6, 11, 12, 13, 18, 19, 20, 21, 22, 23, 24, 25, 26, 27, 28, 29, 30, 31, 32, 33] rfl (by decide +kernel)
set_option maxRecDepth 20000 in
theorem gX0_allGrief_X0_see : GoodIn wsX0_allGrief (wsV RX0 100 RX0 yX0_see wsX0_see) := goodIn_app (goodIn_of _ (by decide +kernel)) ggX0_allGrief_X0_see
theorem dX0_allGrief_0 : decode cX0_allGrief 0 = .ok (.iconst 0, 1) := by decide +kernel
theorem dX0_allGrief_1 : decode cX0_allGrief 1 = .ok (.istore_n 1, 1) := by decide +kernel
theorem dX0_allGrief_2 : decode cX0_allGrief 2 = .ok (.iconst 0, 1) := by decide +kernel
theorem dX0_allGrief_3 : decode cX0_allGrief 3 = .ok (.istore_n 2, 1) := by decide +kernel
theorem dX0_allGrief_4 : decode cX0_allGrief 4 = .ok (.iload_n 2, 1) := by decide +kernel
theorem dX0_allGrief_5 : decode cX0_allGrief 5 = .ok (.aload_n 0, 1) := by decide +kernel
theorem dX0_allGrief_6 : decode cX0_allGrief 6 = .ok (.invokevirtual 114, 3) := by decide +kernel
theorem dX0_allGrief_9 : decode cX0_allGrief 9 = .ok (.if_icmp .ge 18, 3) := by decide +kernel
theorem dX0_allGrief_12 : decode cX0_allGrief 12 = .ok (.iload_n 1, 1) := by decide +kernel
theorem dX0_allGrief_13 : decode cX0_allGrief 13 = .ok (.aload_n 0, 1) := by decide +kernel
theorem dX0_allGrief_14 : decode cX0_allGrief 14 = .ok (.iconst 0, 1) := by decide +kernel
theorem dX0_allGrief_15 : decode cX0_allGrief 15 = .ok (.iload_n 2, 1) := by decide +kernel
theorem dX0_allGrief_16 : decode cX0_allGrief 16 = .ok (.invokevirtual 100, 3) := by decide +kernel
theorem dX0_allGrief_19 : decode cX0_allGrief 19 = .ok (.iadd, 1) := by decide +kernel
theorem dX0_allGrief_20 : decode cX0_allGrief 20 = .ok (.istore_n 1, 1) := by decide +kernel
theorem dX0_allGrief_21 : decode cX0_allGrief 21 = .ok (.iinc 2 1, 3) := by decide +kernel
theorem dX0_allGrief_24 : decode cX0_allGrief 24 = .ok (.goto (-20), 3) := by decide +kernel
theorem dX0_allGrief_27 : decode cX0_allGrief 27 = .ok (.iload_n 1, 1) := by decide +kernel
theorem dX0_allGrief_28 : decode cX0_allGrief 28 = .ok (.ireturn, 1) := by decide +kernel
set_option maxRecDepth 20000 in
theorem ggX0_highest_X0_see : GoodIn wsX0_highest wsX0_see := goodIn_r _ [5, 6, 7, 8, 9, 10, 11, 12, 13, 14, 15, 16, 17, 18, 19, 20, 21, 22, 23, 24, 25] rfl (by decide +kernel)
set_option maxRecDepth 20000 in
theorem gX0_highest_X0_see : GoodIn wsX0_highest (wsV RX0 100 RX0 yX0_see wsX0_see) := goodIn_app (goodIn_of _ (by decide +kernel)) ggX0_highest_X0_see
theorem dX0_highest_0 : decode cX0_highest 0 = .ok (.iconst (-1), 1) := by decide +kernel
theorem dX0_highest_1 : decode cX0_highest 1 = .ok (.istore_n 3, 1) := by decide +kernel
theorem dX0_highest_2 : decode cX0_highest 2 = .ok (.iconst 0, 1) := by decide +kernel
theorem dX0_highest_3 : decode cX0_highest 3 = .ok (.istore 4, 2) := by decide +kernel
theorem dX0_highest_5 : decode cX0_highest 5 = .ok (.iload 4, 2) := by decide +kernel
theorem dX0_highest_7 : decode cX0_highest 7 = .ok (.iload_n 2, 1) := by decide +kernel
theorem dX0_highest_8 : decode cX0_highest 8 = .ok (.if_icmp .ge 33, 3) := by decide +kernel
theorem dX0_highest_11 : decode cX0_highest 11 = .ok (.iload_n 3, 1) := by decide +kernel
theorem dX0_highest_12 : decode cX0_highest 12 = .ok (.iconst (-1), 1) := by decide +kernel
theorem dX0_highest_13 : decode cX0_highest 13 = .ok (.if_icmp .eq 19, 3) := by decide +kernel
theorem dX0_highest_16 : decode cX0_highest 16 = .ok (.aload_n 0, 1) := by decide +kernel
theorem dX0_highest_17 : decode cX0_highest 17 = .ok (.iload_n 1, 1) := by decide +kernel
theorem dX0_highest_18 : decode cX0_highest 18 = .ok (.iload 4, 2) := by decide +kernel
theorem dX0_highest_20 : decode cX0_highest 20 = .ok (.invokevirtual 100, 3) := by decide +kernel
theorem dX0_highest_23 : decode cX0_highest 23 = .ok (.aload_n 0, 1) := by decide +kernel
theorem dX0_highest_24 : decode cX0_highest 24 = .ok (.iload_n 1, 1) := by decide +kernel
theorem dX0_highest_25 : decode cX0_highest 25 = .ok (.iload_n 3, 1) := by decide +kernel
theorem dX0_highest_26 : decode cX0_highest 26 = .ok (.invokevirtual 100, 3) := by decide +kernel
theorem dX0_highest_29 : decode cX0_highest 29 = .ok (.if_icmp .le 6, 3) := by decide +kernel
theorem dX0_highest_32 : decode cX0_highest 32 = .ok (.iload 4, 2) := by decide +kernel
theorem dX0_highest_34 : decode cX0_highest 34 = .ok (.istore_n 3, 1) := by decide +kernel
theorem dX0_highest_35 : decode cX0_highest 35 = .ok (.iinc 4 1, 3) := by decide +kernel
theorem dX0_highest_38 : decode cX0_highest 38 = .ok (.goto (-33), 3) := by decide +kernel
theorem dX0_highest_41 : decode cX0_highest 41 = .ok (.iload_n 3, 1) := by decide +kernel
theorem dX0_highest_42 : decode cX0_highest 42 = .ok (.ireturn, 1) := by decide +kernel
set_option maxRecDepth 20000 in
theorem ggX0_writeDown_X11_at : GoodIn wsX0_writeDown wsX11_at := goodIn_r _ [4] rfl (by decide +kernel)
set_option maxRecDepth 20000 in
theorem gX0_writeDown_X11_at_n86 : GoodIn wsX0_writeDown (wsX11_at) := ggX0_writeDown_X11_at
set_option maxRecDepth 20000 in
theorem ggX0_writeDown_X11_copyPart : GoodIn wsX0_writeDown wsX11_copyPart := goodIn_r _ [6, 7, 8, 9, 10] rfl (by decide +kernel)
set_option maxRecDepth 20000 in
theorem gX0_writeDown_X11_copyPart_n117 : GoodIn wsX0_writeDown (wsX11_copyPart) := ggX0_writeDown_X11_copyPart
set_option maxRecDepth 20000 in
theorem ggX0_writeDown_X0_today : GoodIn wsX0_writeDown wsX0_today := goodIn_r _ [15, 1, 2, 3, 4, 22, 23, 24, 25, 26, 27, 28, 29, 30, 31, 32, 33, 34, 35, 36, 37] rfl (by decide +kernel)
set_option maxRecDepth 20000 in
theorem gX0_writeDown_X0_today : GoodIn wsX0_writeDown (wsV RX0 121 RX0 yX0_today wsX0_today) := goodIn_app (goodIn_of _ (by decide +kernel)) ggX0_writeDown_X0_today
set_option maxRecDepth 20000 in
theorem ggX0_writeDown_X0_set : GoodIn wsX0_writeDown wsX0_set := goodIn_r _ [19, 1, 20, 3, 21, 22, 23, 24, 25, 26, 27, 28, 29, 30, 31, 32, 33, 34, 35, 36, 37] rfl (by decide +kernel)
set_option maxRecDepth 20000 in
theorem gX0_writeDown_X0_set : GoodIn wsX0_writeDown (wsV RX0 103 RX0 yX0_set wsX0_set) := goodIn_app (goodIn_of _ (by decide +kernel)) ggX0_writeDown_X0_set
set_option maxRecDepth 20000 in
theorem ggX0_writeDown_X11_put : GoodIn wsX0_writeDown wsX11_put := goodIn_r _ [21] rfl (by decide +kernel)
set_option maxRecDepth 20000 in
theorem gX0_writeDown_X11_put_n68 : GoodIn wsX0_writeDown (wsX11_put) := ggX0_writeDown_X11_put
theorem dX0_writeDown_0 : decode cX0_writeDown 0 = .ok (.aload_n 0, 1) := by decide +kernel
theorem dX0_writeDown_1 : decode cX0_writeDown 1 = .ok (.getfield 11, 3) := by decide +kernel
theorem dX0_writeDown_4 : decode cX0_writeDown 4 = .ok (.bipush 41, 2) := by decide +kernel
theorem dX0_writeDown_6 : decode cX0_writeDown 6 = .ok (.invokestatic 86, 3) := by decide +kernel
theorem dX0_writeDown_9 : decode cX0_writeDown 9 = .ok (.istore_n 3, 1) := by decide +kernel
theorem dX0_writeDown_10 : decode cX0_writeDown 10 = .ok (.iload_n 3, 1) := by decide +kernel
theorem dX0_writeDown_11 : decode cX0_writeDown 11 = .ok (.bipush 30, 2) := by decide +kernel
theorem dX0_writeDown_13 : decode cX0_writeDown 13 = .ok (.if_icmp .lt 23, 3) := by decide +kernel
theorem dX0_writeDown_16 : decode cX0_writeDown 16 = .ok (.aload_n 0, 1) := by decide +kernel
theorem dX0_writeDown_17 : decode cX0_writeDown 17 = .ok (.getfield 11, 3) := by decide +kernel
theorem dX0_writeDown_20 : decode cX0_writeDown 20 = .ok (.bipush 43, 2) := by decide +kernel
theorem dX0_writeDown_22 : decode cX0_writeDown 22 = .ok (.aload_n 0, 1) := by decide +kernel
theorem dX0_writeDown_23 : decode cX0_writeDown 23 = .ok (.getfield 11, 3) := by decide +kernel
theorem dX0_writeDown_26 : decode cX0_writeDown 26 = .ok (.bipush 42, 2) := by decide +kernel
theorem dX0_writeDown_28 : decode cX0_writeDown 28 = .ok (.bipush 29, 2) := by decide +kernel
theorem dX0_writeDown_30 : decode cX0_writeDown 30 = .ok (.invokestatic 117, 3) := by decide +kernel
theorem dX0_writeDown_33 : decode cX0_writeDown 33 = .ok (.bipush 29, 2) := by decide +kernel
theorem dX0_writeDown_35 : decode cX0_writeDown 35 = .ok (.istore_n 3, 1) := by decide +kernel
theorem dX0_writeDown_36 : decode cX0_writeDown 36 = .ok (.aload_n 0, 1) := by decide +kernel
theorem dX0_writeDown_37 : decode cX0_writeDown 37 = .ok (.bipush 42, 2) := by decide +kernel
theorem dX0_writeDown_39 : decode cX0_writeDown 39 = .ok (.iload_n 3, 1) := by decide +kernel
theorem dX0_writeDown_40 : decode cX0_writeDown 40 = .ok (.aload_n 0, 1) := by decide +kernel
theorem dX0_writeDown_41 : decode cX0_writeDown 41 = .ok (.invokevirtual 121, 3) := by decide +kernel
theorem dX0_writeDown_44 : decode cX0_writeDown 44 = .ok (.bipush 6, 2) := by decide +kernel
theorem dX0_writeDown_46 : decode cX0_writeDown 46 = .ok (.ishl, 1) := by decide +kernel
theorem dX0_writeDown_47 : decode cX0_writeDown 47 = .ok (.iload_n 1, 1) := by decide +kernel
theorem dX0_writeDown_48 : decode cX0_writeDown 48 = .ok (.iconst 3, 1) := by decide +kernel
theorem dX0_writeDown_49 : decode cX0_writeDown 49 = .ok (.ishl, 1) := by decide +kernel
theorem dX0_writeDown_50 : decode cX0_writeDown 50 = .ok (.ior, 1) := by decide +kernel
theorem dX0_writeDown_51 : decode cX0_writeDown 51 = .ok (.iload_n 2, 1) := by decide +kernel
theorem dX0_writeDown_52 : decode cX0_writeDown 52 = .ok (.ior, 1) := by decide +kernel
theorem dX0_writeDown_53 : decode cX0_writeDown 53 = .ok (.invokevirtual 103, 3) := by decide +kernel
theorem dX0_writeDown_56 : decode cX0_writeDown 56 = .ok (.aload_n 0, 1) := by decide +kernel
theorem dX0_writeDown_57 : decode cX0_writeDown 57 = .ok (.getfield 11, 3) := by decide +kernel
theorem dX0_writeDown_60 : decode cX0_writeDown 60 = .ok (.bipush 41, 2) := by decide +kernel
theorem dX0_writeDown_62 : decode cX0_writeDown 62 = .ok (.iload_n 3, 1) := by decide +kernel
theorem dX0_writeDown_63 : decode cX0_writeDown 63 = .ok (.iconst 1, 1) := by decide +kernel
theorem dX0_writeDown_64 : decode cX0_writeDown 64 = .ok (.iadd, 1) := by decide +kernel
theorem dX0_writeDown_65 : decode cX0_writeDown 65 = .ok (.invokestatic 68, 3) := by decide +kernel
theorem dX0_writeDown_68 : decode cX0_writeDown 68 = .ok (.return_, 1) := by decide +kernel
set_option maxRecDepth 20000 in
theorem ggX0_errorsAt_X11_at : GoodIn wsX0_errorsAt wsX11_at := goodIn_r _ [5] rfl (by decide +kernel)
set_option maxRecDepth 20000 in
theorem gX0_errorsAt_X11_at_n86 : GoodIn wsX0_errorsAt (wsX11_at) := ggX0_errorsAt_X11_at
theorem dX0_errorsAt_0 : decode cX0_errorsAt 0 = .ok (.iconst 0, 1) := by decide +kernel
theorem dX0_errorsAt_1 : decode cX0_errorsAt 1 = .ok (.istore_n 2, 1) := by decide +kernel
theorem dX0_errorsAt_2 : decode cX0_errorsAt 2 = .ok (.iconst 0, 1) := by decide +kernel
theorem dX0_errorsAt_3 : decode cX0_errorsAt 3 = .ok (.istore_n 3, 1) := by decide +kernel
theorem dX0_errorsAt_4 : decode cX0_errorsAt 4 = .ok (.iload_n 3, 1) := by decide +kernel
theorem dX0_errorsAt_5 : decode cX0_errorsAt 5 = .ok (.aload_n 0, 1) := by decide +kernel
theorem dX0_errorsAt_6 : decode cX0_errorsAt 6 = .ok (.getfield 53, 3) := by decide +kernel
theorem dX0_errorsAt_9 : decode cX0_errorsAt 9 = .ok (.if_icmp .ge 51, 3) := by decide +kernel
theorem dX0_errorsAt_12 : decode cX0_errorsAt 12 = .ok (.aload_n 0, 1) := by decide +kernel
theorem dX0_errorsAt_13 : decode cX0_errorsAt 13 = .ok (.getfield 50, 3) := by decide +kernel
theorem dX0_errorsAt_16 : decode cX0_errorsAt 16 = .ok (.iload_n 3, 1) := by decide +kernel
theorem dX0_errorsAt_17 : decode cX0_errorsAt 17 = .ok (.invokestatic 86, 3) := by decide +kernel
theorem dX0_errorsAt_20 : decode cX0_errorsAt 20 = .ok (.istore 4, 2) := by decide +kernel
theorem dX0_errorsAt_22 : decode cX0_errorsAt 22 = .ok (.iload 4, 2) := by decide +kernel
theorem dX0_errorsAt_24 : decode cX0_errorsAt 24 = .ok (.iconst 2, 1) := by decide +kernel
theorem dX0_errorsAt_25 : decode cX0_errorsAt 25 = .ok (.idiv, 1) := by decide +kernel
theorem dX0_errorsAt_26 : decode cX0_errorsAt 26 = .ok (.iload_n 1, 1) := by decide +kernel
theorem dX0_errorsAt_27 : decode cX0_errorsAt 27 = .ok (.if_icmp .ge 7, 3) := by decide +kernel
theorem dX0_errorsAt_30 : decode cX0_errorsAt 30 = .ok (.iconst 1, 1) := by decide +kernel
theorem dX0_errorsAt_31 : decode cX0_errorsAt 31 = .ok (.goto 4, 3) := by decide +kernel
theorem dX0_errorsAt_34 : decode cX0_errorsAt 34 = .ok (.iconst 0, 1) := by decide +kernel
theorem dX0_errorsAt_35 : decode cX0_errorsAt 35 = .ok (.istore 5, 2) := by decide +kernel
theorem dX0_errorsAt_37 : decode cX0_errorsAt 37 = .ok (.iload_n 2, 1) := by decide +kernel
theorem dX0_errorsAt_38 : decode cX0_errorsAt 38 = .ok (.iload 5, 2) := by decide +kernel
theorem dX0_errorsAt_40 : decode cX0_errorsAt 40 = .ok (.iload 4, 2) := by decide +kernel
theorem dX0_errorsAt_42 : decode cX0_errorsAt 42 = .ok (.iconst 2, 1) := by decide +kernel
theorem dX0_errorsAt_43 : decode cX0_errorsAt 43 = .ok (.irem, 1) := by decide +kernel
theorem dX0_errorsAt_44 : decode cX0_errorsAt 44 = .ok (.if_icmp .ne 7, 3) := by decide +kernel
theorem dX0_errorsAt_47 : decode cX0_errorsAt 47 = .ok (.iconst 0, 1) := by decide +kernel
theorem dX0_errorsAt_48 : decode cX0_errorsAt 48 = .ok (.goto 4, 3) := by decide +kernel
theorem dX0_errorsAt_51 : decode cX0_errorsAt 51 = .ok (.iconst 1, 1) := by decide +kernel
theorem dX0_errorsAt_52 : decode cX0_errorsAt 52 = .ok (.iadd, 1) := by decide +kernel
theorem dX0_errorsAt_53 : decode cX0_errorsAt 53 = .ok (.istore_n 2, 1) := by decide +kernel
theorem dX0_errorsAt_54 : decode cX0_errorsAt 54 = .ok (.iinc 3 1, 3) := by decide +kernel
theorem dX0_errorsAt_57 : decode cX0_errorsAt 57 = .ok (.goto (-53), 3) := by decide +kernel
theorem dX0_errorsAt_60 : decode cX0_errorsAt 60 = .ok (.iload_n 2, 1) := by decide +kernel
theorem dX0_errorsAt_61 : decode cX0_errorsAt 61 = .ok (.ireturn, 1) := by decide +kernel
set_option maxRecDepth 20000 in
theorem ggX0_leastErrors_X0_errorsAt : GoodIn wsX0_leastErrors wsX0_errorsAt := goodIn_r _ [9, 10, 11, 12, 13, 14, 15, 16, 17, 18, 19, 20, 21, 22, 23, 24, 25, 26, 27, 28, 29, 30] rfl (by decide +kernel)
set_option maxRecDepth 20000 in
theorem gX0_leastErrors_X0_errorsAt : GoodIn wsX0_leastErrors (wsV RX0 124 RX0 yX0_errorsAt wsX0_errorsAt) := goodIn_app (goodIn_of _ (by decide +kernel)) ggX0_leastErrors_X0_errorsAt
theorem dX0_leastErrors_0 : decode cX0_leastErrors 0 = .ok (.aload_n 0, 1) := by decide +kernel
theorem dX0_leastErrors_1 : decode cX0_leastErrors 1 = .ok (.iconst 0, 1) := by decide +kernel
theorem dX0_leastErrors_2 : decode cX0_leastErrors 2 = .ok (.invokevirtual 124, 3) := by decide +kernel
theorem dX0_leastErrors_5 : decode cX0_leastErrors 5 = .ok (.istore_n 1, 1) := by decide +kernel
theorem dX0_leastErrors_6 : decode cX0_leastErrors 6 = .ok (.iconst 1, 1) := by decide +kernel
theorem dX0_leastErrors_7 : decode cX0_leastErrors 7 = .ok (.istore_n 2, 1) := by decide +kernel
theorem dX0_leastErrors_8 : decode cX0_leastErrors 8 = .ok (.iload_n 2, 1) := by decide +kernel
theorem dX0_leastErrors_9 : decode cX0_leastErrors 9 = .ok (.bipush 100, 2) := by decide +kernel
theorem dX0_leastErrors_11 : decode cX0_leastErrors 11 = .ok (.if_icmp .gt 19, 3) := by decide +kernel
theorem dX0_leastErrors_14 : decode cX0_leastErrors 14 = .ok (.iload_n 1, 1) := by decide +kernel
theorem dX0_leastErrors_15 : decode cX0_leastErrors 15 = .ok (.aload_n 0, 1) := by decide +kernel
theorem dX0_leastErrors_16 : decode cX0_leastErrors 16 = .ok (.iload_n 2, 1) := by decide +kernel
theorem dX0_leastErrors_17 : decode cX0_leastErrors 17 = .ok (.invokevirtual 124, 3) := by decide +kernel
theorem dX0_leastErrors_20 : decode cX0_leastErrors 20 = .ok (.invokestatic 90, 3) := by decide +kernel
theorem dX0_leastErrors_23 : decode cX0_leastErrors 23 = .ok (.istore_n 1, 1) := by decide +kernel
theorem dX0_leastErrors_24 : decode cX0_leastErrors 24 = .ok (.iinc 2 1, 3) := by decide +kernel
theorem dX0_leastErrors_27 : decode cX0_leastErrors 27 = .ok (.goto (-19), 3) := by decide +kernel
theorem dX0_leastErrors_30 : decode cX0_leastErrors 30 = .ok (.iload_n 1, 1) := by decide +kernel
theorem dX0_leastErrors_31 : decode cX0_leastErrors 31 = .ok (.ireturn, 1) := by decide +kernel
set_option maxRecDepth 20000 in
theorem ggX0_leastBorne_X0_leastErrors : GoodIn wsX0_leastBorne wsX0_leastErrors := goodIn_r _ [5, 6, 7, 8, 9, 10, 11, 12, 4, 13, 14, 15, 16, 17, 18, 19, 20, 21, 22, 23, 24, 25, 26, 27, 28, 29, 30, 31, 32, 33, 34] rfl (by decide +kernel)
set_option maxRecDepth 20000 in
theorem gX0_leastBorne_X0_leastErrors : GoodIn wsX0_leastBorne (wsV RX0 128 RX0 yX0_leastErrors wsX0_leastErrors) := goodIn_app (goodIn_of _ (by decide +kernel)) ggX0_leastBorne_X0_leastErrors
set_option maxRecDepth 20000 in
theorem ggX0_leastBorne_X0_errorsAt : GoodIn wsX0_leastBorne wsX0_errorsAt := goodIn_r _ [13, 14, 15, 16, 17, 18, 19, 20, 21, 22, 23, 24, 25, 26, 27, 28, 29, 30, 31, 32, 33, 34] rfl (by decide +kernel)
set_option maxRecDepth 20000 in
theorem gX0_leastBorne_X0_errorsAt : GoodIn wsX0_leastBorne (wsV RX0 124 RX0 yX0_errorsAt wsX0_errorsAt) := goodIn_app (goodIn_of _ (by decide +kernel)) ggX0_leastBorne_X0_errorsAt
theorem dX0_leastBorne_0 : decode cX0_leastBorne 0 = .ok (.aload_n 0, 1) := by decide +kernel
theorem dX0_leastBorne_1 : decode cX0_leastBorne 1 = .ok (.invokevirtual 128, 3) := by decide +kernel
theorem dX0_leastBorne_4 : decode cX0_leastBorne 4 = .ok (.istore_n 1, 1) := by decide +kernel
theorem dX0_leastBorne_5 : decode cX0_leastBorne 5 = .ok (.iconst 0, 1) := by decide +kernel
theorem dX0_leastBorne_6 : decode cX0_leastBorne 6 = .ok (.istore_n 2, 1) := by decide +kernel
theorem dX0_leastBorne_7 : decode cX0_leastBorne 7 = .ok (.bipush 100, 2) := by decide +kernel
theorem dX0_leastBorne_9 : decode cX0_leastBorne 9 = .ok (.istore_n 3, 1) := by decide +kernel
theorem dX0_leastBorne_10 : decode cX0_leastBorne 10 = .ok (.iload_n 3, 1) := by decide +kernel
theorem dX0_leastBorne_11 : decode cX0_leastBorne 11 = .ok (.ifCond .lt 24, 3) := by decide +kernel
theorem dX0_leastBorne_14 : decode cX0_leastBorne 14 = .ok (.aload_n 0, 1) := by decide +kernel
theorem dX0_leastBorne_15 : decode cX0_leastBorne 15 = .ok (.iload_n 3, 1) := by decide +kernel
theorem dX0_leastBorne_16 : decode cX0_leastBorne 16 = .ok (.invokevirtual 124, 3) := by decide +kernel
theorem dX0_leastBorne_19 : decode cX0_leastBorne 19 = .ok (.iload_n 1, 1) := by decide +kernel
theorem dX0_leastBorne_20 : decode cX0_leastBorne 20 = .ok (.if_icmp .ne 7, 3) := by decide +kernel
theorem dX0_leastBorne_23 : decode cX0_leastBorne 23 = .ok (.iload_n 3, 1) := by decide +kernel
theorem dX0_leastBorne_24 : decode cX0_leastBorne 24 = .ok (.goto 4, 3) := by decide +kernel
theorem dX0_leastBorne_27 : decode cX0_leastBorne 27 = .ok (.iload_n 2, 1) := by decide +kernel
theorem dX0_leastBorne_28 : decode cX0_leastBorne 28 = .ok (.istore_n 2, 1) := by decide +kernel
theorem dX0_leastBorne_29 : decode cX0_leastBorne 29 = .ok (.iinc 3 (-1), 3) := by decide +kernel
theorem dX0_leastBorne_32 : decode cX0_leastBorne 32 = .ok (.goto (-22), 3) := by decide +kernel
theorem dX0_leastBorne_35 : decode cX0_leastBorne 35 = .ok (.iload_n 2, 1) := by decide +kernel
theorem dX0_leastBorne_36 : decode cX0_leastBorne 36 = .ok (.ireturn, 1) := by decide +kernel
set_option maxRecDepth 20000 in
theorem ggX0_greatestBorne_X0_leastErrors : GoodIn wsX0_greatestBorne wsX0_leastErrors := goodIn_r _ [5, 6, 7, 8, 9, 10, 11, 12, 4, 13, 14, 15, 16, 17, 18, 19, 20, 21, 22, 23, 24, 25, 26, 27, 28, 29, 30, 31, 32, 33, 34] rfl (by decide +kernel)
set_option maxRecDepth 20000 in
theorem gX0_greatestBorne_X0_leastErrors : GoodIn wsX0_greatestBorne (wsV RX0 128 RX0 yX0_leastErrors wsX0_leastErrors) := goodIn_app (goodIn_of _ (by decide +kernel)) ggX0_greatestBorne_X0_leastErrors
set_option maxRecDepth 20000 in
theorem ggX0_greatestBorne_X0_errorsAt : GoodIn wsX0_greatestBorne wsX0_errorsAt := goodIn_r _ [13, 14, 15, 16, 17, 18, 19, 20, 21, 22, 23, 24, 25, 26, 27, 28, 29, 30, 31, 32, 33, 34] rfl (by decide +kernel)
set_option maxRecDepth 20000 in
theorem gX0_greatestBorne_X0_errorsAt : GoodIn wsX0_greatestBorne (wsV RX0 124 RX0 yX0_errorsAt wsX0_errorsAt) := goodIn_app (goodIn_of _ (by decide +kernel)) ggX0_greatestBorne_X0_errorsAt
theorem dX0_greatestBorne_0 : decode cX0_greatestBorne 0 = .ok (.aload_n 0, 1) := by decide +kernel
theorem dX0_greatestBorne_1 : decode cX0_greatestBorne 1 = .ok (.invokevirtual 128, 3) := by decide +kernel
theorem dX0_greatestBorne_4 : decode cX0_greatestBorne 4 = .ok (.istore_n 1, 1) := by decide +kernel
theorem dX0_greatestBorne_5 : decode cX0_greatestBorne 5 = .ok (.iconst 0, 1) := by decide +kernel
theorem dX0_greatestBorne_6 : decode cX0_greatestBorne 6 = .ok (.istore_n 2, 1) := by decide +kernel
theorem dX0_greatestBorne_7 : decode cX0_greatestBorne 7 = .ok (.iconst 0, 1) := by decide +kernel
theorem dX0_greatestBorne_8 : decode cX0_greatestBorne 8 = .ok (.istore_n 3, 1) := by decide +kernel
theorem dX0_greatestBorne_9 : decode cX0_greatestBorne 9 = .ok (.iload_n 3, 1) := by decide +kernel
theorem dX0_greatestBorne_10 : decode cX0_greatestBorne 10 = .ok (.bipush 100, 2) := by decide +kernel
theorem dX0_greatestBorne_12 : decode cX0_greatestBorne 12 = .ok (.if_icmp .gt 24, 3) := by decide +kernel
theorem dX0_greatestBorne_15 : decode cX0_greatestBorne 15 = .ok (.aload_n 0, 1) := by decide +kernel
theorem dX0_greatestBorne_16 : decode cX0_greatestBorne 16 = .ok (.iload_n 3, 1) := by decide +kernel
theorem dX0_greatestBorne_17 : decode cX0_greatestBorne 17 = .ok (.invokevirtual 124, 3) := by decide +kernel
theorem dX0_greatestBorne_20 : decode cX0_greatestBorne 20 = .ok (.iload_n 1, 1) := by decide +kernel
theorem dX0_greatestBorne_21 : decode cX0_greatestBorne 21 = .ok (.if_icmp .ne 7, 3) := by decide +kernel
theorem dX0_greatestBorne_24 : decode cX0_greatestBorne 24 = .ok (.iload_n 3, 1) := by decide +kernel
theorem dX0_greatestBorne_25 : decode cX0_greatestBorne 25 = .ok (.goto 4, 3) := by decide +kernel
theorem dX0_greatestBorne_28 : decode cX0_greatestBorne 28 = .ok (.iload_n 2, 1) := by decide +kernel
theorem dX0_greatestBorne_29 : decode cX0_greatestBorne 29 = .ok (.istore_n 2, 1) := by decide +kernel
theorem dX0_greatestBorne_30 : decode cX0_greatestBorne 30 = .ok (.iinc 3 1, 3) := by decide +kernel
theorem dX0_greatestBorne_33 : decode cX0_greatestBorne 33 = .ok (.goto (-24), 3) := by decide +kernel
theorem dX0_greatestBorne_36 : decode cX0_greatestBorne 36 = .ok (.iload_n 2, 1) := by decide +kernel
theorem dX0_greatestBorne_37 : decode cX0_greatestBorne 37 = .ok (.ireturn, 1) := by decide +kernel
