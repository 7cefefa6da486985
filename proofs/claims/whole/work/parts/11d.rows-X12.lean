theorem dX12_of_65 : decode cX12_of 65 = .ok (.iconst 0, 1) := by decide +kernel
theorem dX12_of_66 : decode cX12_of 66 = .ok (.invokevirtual 84, 3) := by decide +kernel
theorem dX12_of_69 : decode cX12_of 69 = .ok (.ireturn, 1) := by decide +kernel
theorem dX12_of_70 : decode cX12_of 70 = .ok (.aload_n 0, 1) := by decide +kernel
theorem dX12_of_71 : decode cX12_of 71 = .ok (.iload_n 1, 1) := by decide +kernel
theorem dX12_of_72 : decode cX12_of 72 = .ok (.iconst 1, 1) := by decide +kernel
theorem dX12_of_73 : decode cX12_of 73 = .ok (.invokevirtual 84, 3) := by decide +kernel
theorem dX12_of_76 : decode cX12_of 76 = .ok (.ireturn, 1) := by decide +kernel
theorem dX12_of_77 : decode cX12_of 77 = .ok (.aload_n 0, 1) := by decide +kernel
theorem dX12_of_78 : decode cX12_of 78 = .ok (.iload_n 1, 1) := by decide +kernel
theorem dX12_of_79 : decode cX12_of 79 = .ok (.iconst 2, 1) := by decide +kernel
theorem dX12_of_80 : decode cX12_of 80 = .ok (.invokevirtual 84, 3) := by decide +kernel
theorem dX12_of_83 : decode cX12_of 83 = .ok (.ireturn, 1) := by decide +kernel
theorem dX12_of_84 : decode cX12_of 84 = .ok (.aload_n 0, 1) := by decide +kernel
theorem dX12_of_85 : decode cX12_of 85 = .ok (.iload_n 1, 1) := by decide +kernel
theorem dX12_of_86 : decode cX12_of 86 = .ok (.iconst 3, 1) := by decide +kernel
theorem dX12_of_87 : decode cX12_of 87 = .ok (.invokevirtual 84, 3) := by decide +kernel
theorem dX12_of_90 : decode cX12_of 90 = .ok (.ireturn, 1) := by decide +kernel
theorem dX12_of_91 : decode cX12_of 91 = .ok (.aload_n 0, 1) := by decide +kernel
theorem dX12_of_92 : decode cX12_of 92 = .ok (.aload_n 0, 1) := by decide +kernel
theorem dX12_of_93 : decode cX12_of 93 = .ok (.getfield 7, 3) := by decide +kernel
theorem dX12_of_96 : decode cX12_of 96 = .ok (.iconst 3, 1) := by decide +kernel
theorem dX12_of_97 : decode cX12_of 97 = .ok (.iaload, 1) := by decide +kernel
theorem dX12_of_98 : decode cX12_of 98 = .ok (.iload_n 1, 1) := by decide +kernel
theorem dX12_of_99 : decode cX12_of 99 = .ok (.invokevirtual 351, 3) := by decide +kernel
theorem dX12_of_102 : decode cX12_of 102 = .ok (.ireturn, 1) := by decide +kernel
theorem dX12_of_103 : decode cX12_of 103 = .ok (.aload_n 0, 1) := by decide +kernel
theorem dX12_of_104 : decode cX12_of 104 = .ok (.iload_n 1, 1) := by decide +kernel
theorem dX12_of_105 : decode cX12_of 105 = .ok (.invokevirtual 318, 3) := by decide +kernel
theorem dX12_of_108 : decode cX12_of 108 = .ok (.ireturn, 1) := by decide +kernel
theorem dX12_of_109 : decode cX12_of 109 = .ok (.bipush (-2), 2) := by decide +kernel
theorem dX12_of_111 : decode cX12_of 111 = .ok (.ireturn, 1) := by decide +kernel
set_option maxRecDepth 20000 in
theorem ggX12_ofClown_X12_isClown : GoodIn wsX12_ofClown wsX12_isClown := goodIn_r _ [5, 6, 7, 8, 4, 9, 14, 15, 16, 17, 18, 19, 20, 21, 22, 23, 24, 25, 26, 27, 28, 29, 30, 31, 32, 33, 34, 35, 36, 37, 38, 39, 40, 41, 42, 43, 44] rfl (by decide +kernel)
set_option maxRecDepth 20000 in
theorem gX12_ofClown_X12_isClown : GoodIn wsX12_ofClown (wsV RX12 354 RX12 yX12_isClown wsX12_isClown) := goodIn_app (goodIn_of _ (by decide +kernel)) ggX12_ofClown_X12_isClown
set_option maxRecDepth 20000 in
theorem ggX12_ofClown_X12_own : GoodIn wsX12_ofClown wsX12_own := goodIn_r _ [13, 6, 14, 15, 16, 17, 18, 19, 20, 21, 22, 23, 24, 25, 26, 27, 28, 29, 30, 31, 32, 33, 34, 35, 36, 37, 38, 39, 40, 41, 42, 43, 44] rfl (by decide +kernel)
set_option maxRecDepth 20000 in
theorem gX12_ofClown_X12_own : GoodIn wsX12_ofClown (wsV RX12 72 RX12 yX12_own wsX12_own) := goodIn_app (goodIn_of _ (by decide +kernel)) ggX12_ofClown_X12_own
theorem dX12_ofClown_0 : decode cX12_ofClown 0 = .ok (.aload_n 0, 1) := by decide +kernel
theorem dX12_ofClown_1 : decode cX12_ofClown 1 = .ok (.iload_n 1, 1) := by decide +kernel
theorem dX12_ofClown_2 : decode cX12_ofClown 2 = .ok (.invokevirtual 354, 3) := by decide +kernel
theorem dX12_ofClown_5 : decode cX12_ofClown 5 = .ok (.ifCond .ne 6, 3) := by decide +kernel
theorem dX12_ofClown_8 : decode cX12_ofClown 8 = .ok (.bipush (-2), 2) := by decide +kernel
theorem dX12_ofClown_10 : decode cX12_ofClown 10 = .ok (.ireturn, 1) := by decide +kernel
theorem dX12_ofClown_11 : decode cX12_ofClown 11 = .ok (.iload_n 2, 1) := by decide +kernel
theorem dX12_ofClown_12 : decode cX12_ofClown 12 = .ok (.tableswitch 71 0 4 #[36, 43, 50, 57, 64], 36) := by decide +kernel
theorem dX12_ofClown_48 : decode cX12_ofClown 48 = .ok (.aload_n 0, 1) := by decide +kernel
theorem dX12_ofClown_49 : decode cX12_ofClown 49 = .ok (.iload_n 1, 1) := by decide +kernel
theorem dX12_ofClown_50 : decode cX12_ofClown 50 = .ok (.iconst 3, 1) := by decide +kernel
theorem dX12_ofClown_51 : decode cX12_ofClown 51 = .ok (.invokevirtual 72, 3) := by decide +kernel
theorem dX12_ofClown_54 : decode cX12_ofClown 54 = .ok (.ireturn, 1) := by decide +kernel
theorem dX12_ofClown_55 : decode cX12_ofClown 55 = .ok (.aload_n 0, 1) := by decide +kernel
theorem dX12_ofClown_56 : decode cX12_ofClown 56 = .ok (.iload_n 1, 1) := by decide +kernel
theorem dX12_ofClown_57 : decode cX12_ofClown 57 = .ok (.iconst 4, 1) := by decide +kernel
theorem dX12_ofClown_58 : decode cX12_ofClown 58 = .ok (.invokevirtual 72, 3) := by decide +kernel
theorem dX12_ofClown_61 : decode cX12_ofClown 61 = .ok (.ireturn, 1) := by decide +kernel
theorem dX12_ofClown_62 : decode cX12_ofClown 62 = .ok (.aload_n 0, 1) := by decide +kernel
theorem dX12_ofClown_63 : decode cX12_ofClown 63 = .ok (.iload_n 1, 1) := by decide +kernel
theorem dX12_ofClown_64 : decode cX12_ofClown 64 = .ok (.iconst 0, 1) := by decide +kernel
theorem dX12_ofClown_65 : decode cX12_ofClown 65 = .ok (.invokevirtual 72, 3) := by decide +kernel
theorem dX12_ofClown_68 : decode cX12_ofClown 68 = .ok (.ireturn, 1) := by decide +kernel
theorem dX12_ofClown_69 : decode cX12_ofClown 69 = .ok (.aload_n 0, 1) := by decide +kernel
theorem dX12_ofClown_70 : decode cX12_ofClown 70 = .ok (.iload_n 1, 1) := by decide +kernel
theorem dX12_ofClown_71 : decode cX12_ofClown 71 = .ok (.iconst 1, 1) := by decide +kernel
theorem dX12_ofClown_72 : decode cX12_ofClown 72 = .ok (.invokevirtual 72, 3) := by decide +kernel
theorem dX12_ofClown_75 : decode cX12_ofClown 75 = .ok (.ireturn, 1) := by decide +kernel
theorem dX12_ofClown_76 : decode cX12_ofClown 76 = .ok (.aload_n 0, 1) := by decide +kernel
theorem dX12_ofClown_77 : decode cX12_ofClown 77 = .ok (.iload_n 1, 1) := by decide +kernel
theorem dX12_ofClown_78 : decode cX12_ofClown 78 = .ok (.iconst 2, 1) := by decide +kernel
theorem dX12_ofClown_79 : decode cX12_ofClown 79 = .ok (.invokevirtual 72, 3) := by decide +kernel
theorem dX12_ofClown_82 : decode cX12_ofClown 82 = .ok (.ireturn, 1) := by decide +kernel
theorem dX12_ofClown_83 : decode cX12_ofClown 83 = .ok (.bipush (-2), 2) := by decide +kernel
theorem dX12_ofClown_85 : decode cX12_ofClown 85 = .ok (.ireturn, 1) := by decide +kernel
set_option maxRecDepth 20000 in
theorem ggX12_eased_X12_isAtHouse : GoodIn wsX12_eased wsX12_isAtHouse := goodIn_r _ [5, 6, 7, 8, 4, 9, 10, 11, 12, 13, 14, 15, 16, 17, 73, 74, 75, 76, 77, 78, 79, 80, 81, 82, 83, 84, 85, 86, 87, 88, 89, 90, 91, 92, 93, 94, 95, 96, 97, 98, 99, 100, 101, 102, 103] rfl (by decide +kernel)
set_option maxRecDepth 20000 in
theorem gX12_eased_X12_isAtHouse : GoodIn wsX12_eased (wsV RX12 366 RX12 yX12_isAtHouse wsX12_isAtHouse) := goodIn_app (goodIn_of _ (by decide +kernel)) ggX12_eased_X12_isAtHouse
set_option maxRecDepth 20000 in
theorem ggX12_eased_X12_isKind : GoodIn wsX12_eased wsX12_isKind := goodIn_r _ [20, 11, 12, 4, 13] rfl (by decide +kernel)
set_option maxRecDepth 20000 in
theorem gX12_eased_X12_isKind : GoodIn wsX12_eased (va_wsS RX12 93 yX12_isKind wsX12_isKind) := goodIn_app (goodIn_of _ (by decide +kernel)) ggX12_eased_X12_isKind
set_option maxRecDepth 20000 in
theorem ggX12_eased_X12_easesOf : GoodIn wsX12_eased wsX12_easesOf := goodIn_r _ [24, 10, 25, 26, 27, 28, 4, 29, 14, 15, 16, 17, 30, 31, 32, 33, 34, 35, 36, 37, 38, 39, 40, 41, 42, 43, 44, 45, 46, 47, 48, 49, 50, 51, 52, 53, 54, 55, 56, 57, 58, 59, 60, 61, 62, 63, 64, 65, 66, 67, 68, 69, 70, 71, 72, 73, 74, 75, 76, 77, 78, 79, 80, 81, 82, 83, 84, 85, 86, 87, 88, 89, 90, 91, 92, 93, 94, 95, 96, 97, 98, 99, 100, 101, 102, 103] rfl (by decide +kernel)
set_option maxRecDepth 20000 in
theorem gX12_eased_X12_easesOf : GoodIn wsX12_eased (wsV RX12 330 RX12 yX12_easesOf wsX12_easesOf) := goodIn_app (goodIn_of _ (by decide +kernel)) ggX12_eased_X12_easesOf
theorem dX12_eased_0 : decode cX12_eased 0 = .ok (.aload_n 0, 1) := by decide +kernel
theorem dX12_eased_1 : decode cX12_eased 1 = .ok (.iload_n 1, 1) := by decide +kernel
theorem dX12_eased_2 : decode cX12_eased 2 = .ok (.invokevirtual 366, 3) := by decide +kernel
theorem dX12_eased_5 : decode cX12_eased 5 = .ok (.ifCond .eq 19, 3) := by decide +kernel
theorem dX12_eased_8 : decode cX12_eased 8 = .ok (.iload_n 2, 1) := by decide +kernel
theorem dX12_eased_9 : decode cX12_eased 9 = .ok (.invokestatic 93, 3) := by decide +kernel
theorem dX12_eased_12 : decode cX12_eased 12 = .ok (.ifCond .eq 12, 3) := by decide +kernel
theorem dX12_eased_15 : decode cX12_eased 15 = .ok (.aload_n 0, 1) := by decide +kernel
theorem dX12_eased_16 : decode cX12_eased 16 = .ok (.iload_n 1, 1) := by decide +kernel
theorem dX12_eased_17 : decode cX12_eased 17 = .ok (.iload_n 2, 1) := by decide +kernel
theorem dX12_eased_18 : decode cX12_eased 18 = .ok (.invokevirtual 330, 3) := by decide +kernel
theorem dX12_eased_21 : decode cX12_eased 21 = .ok (.goto 4, 3) := by decide +kernel
theorem dX12_eased_24 : decode cX12_eased 24 = .ok (.iconst (-1), 1) := by decide +kernel
theorem dX12_eased_25 : decode cX12_eased 25 = .ok (.ireturn, 1) := by decide +kernel
set_option maxRecDepth 20000 in
theorem ggX12_laughs_X12_isAtHouse : GoodIn wsX12_laughs wsX12_isAtHouse := goodIn_r _ [5, 6, 7, 8, 4, 9, 10, 11, 12, 13, 14, 15, 16, 17, 89, 90, 91, 92, 93, 94, 95, 96, 97, 98, 99, 100, 101, 102, 103, 104, 105, 106, 107, 108, 109, 110, 111, 112, 113, 114, 115, 116, 117, 118, 119] rfl (by decide +kernel)
set_option maxRecDepth 20000 in
theorem gX12_laughs_X12_isAtHouse : GoodIn wsX12_laughs (wsV RX12 366 RX12 yX12_isAtHouse wsX12_isAtHouse) := goodIn_app (goodIn_of _ (by decide +kernel)) ggX12_laughs_X12_isAtHouse
set_option maxRecDepth 20000 in
theorem ggX12_laughs_X12_isKind : GoodIn wsX12_laughs wsX12_isKind := goodIn_r _ [20, 11, 12, 4, 13] rfl (by decide +kernel)
set_option maxRecDepth 20000 in
theorem gX12_laughs_X12_isKind : GoodIn wsX12_laughs (va_wsS RX12 93 yX12_isKind wsX12_isKind) := goodIn_app (goodIn_of _ (by decide +kernel)) ggX12_laughs_X12_isKind
set_option maxRecDepth 20000 in
theorem ggX12_laughs_X12_own : GoodIn wsX12_laughs wsX12_own := goodIn_r _ [17, 10, 89, 90, 91, 92, 93, 94, 95, 96, 97, 98, 99, 100, 101, 102, 103, 104, 105, 106, 107, 108, 109, 110, 111, 112, 113, 114, 115, 116, 117, 118, 119] rfl (by decide +kernel)
set_option maxRecDepth 20000 in
theorem gX12_laughs_X12_own : GoodIn wsX12_laughs (wsV RX12 72 RX12 yX12_own wsX12_own) := goodIn_app (goodIn_of _ (by decide +kernel)) ggX12_laughs_X12_own
set_option maxRecDepth 20000 in
theorem ggX12_laughs_X12_get : GoodIn wsX12_laughs wsX12_get := goodIn_r _ [24, 10, 89, 90, 91, 92, 93, 94, 95, 96, 97, 98, 99, 100, 101, 102, 103, 104, 105, 106, 107, 108, 109, 110, 111, 112, 113, 114, 115, 116, 117, 118, 119] rfl (by decide +kernel)
set_option maxRecDepth 20000 in
theorem gX12_laughs_X12_get : GoodIn wsX12_laughs (wsV RX12 84 RX12 yX12_get wsX12_get) := goodIn_app (goodIn_of _ (by decide +kernel)) ggX12_laughs_X12_get
set_option maxRecDepth 20000 in
theorem ggX12_laughs_X12_comfortNow : GoodIn wsX12_laughs wsX12_comfortNow := goodIn_r _ [28, 14, 15, 16, 4, 17, 10, 21, 22, 23, 24, 29, 30, 31, 32, 33, 34, 35, 36, 37, 38, 39, 40, 41, 42, 43, 44, 45, 46, 47, 48, 49, 50, 51, 52, 53, 54, 55, 56, 57, 58, 59, 60, 61, 62, 63, 64, 65, 66, 67, 68, 69, 70, 71, 72, 73, 74, 75, 76, 77, 78, 79, 80, 81, 82, 83, 84, 89, 90, 91, 92, 93, 94, 95, 96, 97, 98, 99, 100, 101, 102, 103, 104, 105, 106, 107, 108, 109, 110, 111, 112, 113, 114, 115, 116, 117, 118, 119] rfl (by decide +kernel)
set_option maxRecDepth 20000 in
theorem gX12_laughs_X12_comfortNow : GoodIn wsX12_laughs (wsV RX12 339 RX12 yX12_comfortNow wsX12_comfortNow) := goodIn_app (goodIn_of _ (by decide +kernel)) ggX12_laughs_X12_comfortNow
set_option maxRecDepth 20000 in
theorem ggX12_laughs_X12_laughsOf : GoodIn wsX12_laughs wsX12_laughsOf := goodIn_r _ [88, 10, 33, 34, 35, 36, 4, 37, 14, 15, 16, 17, 38, 39, 40, 41, 21, 22, 23, 24, 42, 43, 44, 45, 46, 47, 48, 49, 50, 51, 52, 53, 54, 55, 56, 57, 58, 59, 60, 61, 62, 63, 64, 65, 66, 67, 68, 69, 70, 71, 72, 73, 74, 75, 76, 89, 90, 91, 92, 93, 94, 95, 96, 97, 98, 99, 100, 101, 102, 103, 104, 105, 106, 107, 108, 109, 110, 111, 112, 113, 114, 115, 116, 117, 118, 119] rfl (by decide +kernel)
set_option maxRecDepth 20000 in
theorem gX12_laughs_X12_laughsOf : GoodIn wsX12_laughs (wsV RX12 342 RX12 yX12_laughsOf wsX12_laughsOf) := goodIn_app (goodIn_of _ (by decide +kernel)) ggX12_laughs_X12_laughsOf
set_option maxRecDepth 20000 in
theorem ggX12_laughs_X12_put : GoodIn wsX12_laughs wsX12_put := goodIn_r _ [80, 10, 89, 90, 91, 92, 93, 94, 95, 96, 97, 98, 99, 100, 101, 102, 103, 104, 105, 106, 107, 108, 109, 110, 111, 112, 113, 114, 115, 116, 117, 118, 119] rfl (by decide +kernel)
set_option maxRecDepth 20000 in
theorem gX12_laughs_X12_put : GoodIn wsX12_laughs (wsV RX12 76 RX12 yX12_put wsX12_put) := goodIn_app (goodIn_of _ (by decide +kernel)) ggX12_laughs_X12_put
theorem dX12_laughs_0 : decode cX12_laughs 0 = .ok (.aload_n 0, 1) := by decide +kernel
theorem dX12_laughs_1 : decode cX12_laughs 1 = .ok (.iload_n 1, 1) := by decide +kernel
theorem dX12_laughs_2 : decode cX12_laughs 2 = .ok (.invokevirtual 366, 3) := by decide +kernel
theorem dX12_laughs_5 : decode cX12_laughs 5 = .ok (.ifCond .eq 10, 3) := by decide +kernel
theorem dX12_laughs_8 : decode cX12_laughs 8 = .ok (.iload_n 2, 1) := by decide +kernel
theorem dX12_laughs_9 : decode cX12_laughs 9 = .ok (.invokestatic 93, 3) := by decide +kernel
theorem dX12_laughs_12 : decode cX12_laughs 12 = .ok (.ifCond .ne 5, 3) := by decide +kernel
theorem dX12_laughs_15 : decode cX12_laughs 15 = .ok (.iconst (-1), 1) := by decide +kernel
theorem dX12_laughs_16 : decode cX12_laughs 16 = .ok (.ireturn, 1) := by decide +kernel
theorem dX12_laughs_17 : decode cX12_laughs 17 = .ok (.aload_n 0, 1) := by decide +kernel
theorem dX12_laughs_18 : decode cX12_laughs 18 = .ok (.iload_n 1, 1) := by decide +kernel
theorem dX12_laughs_19 : decode cX12_laughs 19 = .ok (.iconst 1, 1) := by decide +kernel
theorem dX12_laughs_20 : decode cX12_laughs 20 = .ok (.invokevirtual 72, 3) := by decide +kernel
theorem dX12_laughs_23 : decode cX12_laughs 23 = .ok (.istore_n 3, 1) := by decide +kernel
theorem dX12_laughs_24 : decode cX12_laughs 24 = .ok (.aload_n 0, 1) := by decide +kernel
theorem dX12_laughs_25 : decode cX12_laughs 25 = .ok (.iload_n 3, 1) := by decide +kernel
theorem dX12_laughs_26 : decode cX12_laughs 26 = .ok (.iconst 0, 1) := by decide +kernel
theorem dX12_laughs_27 : decode cX12_laughs 27 = .ok (.invokevirtual 84, 3) := by decide +kernel
theorem dX12_laughs_30 : decode cX12_laughs 30 = .ok (.istore 4, 2) := by decide +kernel
theorem dX12_laughs_32 : decode cX12_laughs 32 = .ok (.aload_n 0, 1) := by decide +kernel
theorem dX12_laughs_33 : decode cX12_laughs 33 = .ok (.iload_n 3, 1) := by decide +kernel
theorem dX12_laughs_34 : decode cX12_laughs 34 = .ok (.iconst 1, 1) := by decide +kernel
theorem dX12_laughs_35 : decode cX12_laughs 35 = .ok (.invokevirtual 84, 3) := by decide +kernel
theorem dX12_laughs_38 : decode cX12_laughs 38 = .ok (.istore 5, 2) := by decide +kernel
theorem dX12_laughs_40 : decode cX12_laughs 40 = .ok (.aload_n 0, 1) := by decide +kernel
theorem dX12_laughs_41 : decode cX12_laughs 41 = .ok (.iload_n 1, 1) := by decide +kernel
theorem dX12_laughs_42 : decode cX12_laughs 42 = .ok (.iload_n 2, 1) := by decide +kernel
theorem dX12_laughs_43 : decode cX12_laughs 43 = .ok (.invokevirtual 339, 3) := by decide +kernel
theorem dX12_laughs_46 : decode cX12_laughs 46 = .ok (.aload_n 0, 1) := by decide +kernel
theorem dX12_laughs_47 : decode cX12_laughs 47 = .ok (.iload_n 1, 1) := by decide +kernel
theorem dX12_laughs_48 : decode cX12_laughs 48 = .ok (.iload_n 2, 1) := by decide +kernel
theorem dX12_laughs_49 : decode cX12_laughs 49 = .ok (.invokevirtual 342, 3) := by decide +kernel
theorem dX12_laughs_52 : decode cX12_laughs 52 = .ok (.istore 6, 2) := by decide +kernel
theorem dX12_laughs_54 : decode cX12_laughs 54 = .ok (.aload_n 0, 1) := by decide +kernel
theorem dX12_laughs_55 : decode cX12_laughs 55 = .ok (.iload_n 3, 1) := by decide +kernel
theorem dX12_laughs_56 : decode cX12_laughs 56 = .ok (.iconst 0, 1) := by decide +kernel
theorem dX12_laughs_57 : decode cX12_laughs 57 = .ok (.iload 4, 2) := by decide +kernel
theorem dX12_laughs_59 : decode cX12_laughs 59 = .ok (.invokevirtual 76, 3) := by decide +kernel
theorem dX12_laughs_62 : decode cX12_laughs 62 = .ok (.aload_n 0, 1) := by decide +kernel
theorem dX12_laughs_63 : decode cX12_laughs 63 = .ok (.iload_n 3, 1) := by decide +kernel
theorem dX12_laughs_64 : decode cX12_laughs 64 = .ok (.iconst 1, 1) := by decide +kernel
theorem dX12_laughs_65 : decode cX12_laughs 65 = .ok (.iload 5, 2) := by decide +kernel
theorem dX12_laughs_67 : decode cX12_laughs 67 = .ok (.invokevirtual 76, 3) := by decide +kernel
theorem dX12_laughs_70 : decode cX12_laughs 70 = .ok (.iload 6, 2) := by decide +kernel
theorem dX12_laughs_72 : decode cX12_laughs 72 = .ok (.ireturn, 1) := by decide +kernel
set_option maxRecDepth 20000 in
theorem ggX12_is_X12_isIn : GoodIn wsX12_is wsX12_isIn := goodIn_r _ [5] rfl (by decide +kernel)
set_option maxRecDepth 20000 in
theorem gX12_is_X12_isIn : GoodIn wsX12_is (va_wsS RX12 68 yX12_isIn wsX12_isIn) := goodIn_app (goodIn_of _ (by decide +kernel)) ggX12_is_X12_isIn
theorem dX12_is_0 : decode cX12_is 0 = .ok (.iload_n 1, 1) := by decide +kernel
theorem dX12_is_1 : decode cX12_is 1 = .ok (.iconst 0, 1) := by decide +kernel
theorem dX12_is_2 : decode cX12_is 2 = .ok (.iconst 1, 1) := by decide +kernel
theorem dX12_is_3 : decode cX12_is 3 = .ok (.invokestatic 68, 3) := by decide +kernel
theorem dX12_is_6 : decode cX12_is 6 = .ok (.ifCond .eq 15, 3) := by decide +kernel
theorem dX12_is_9 : decode cX12_is 9 = .ok (.aload_n 0, 1) := by decide +kernel
theorem dX12_is_10 : decode cX12_is 10 = .ok (.getfield 7, 3) := by decide +kernel
theorem dX12_is_13 : decode cX12_is 13 = .ok (.bipush 7, 2) := by decide +kernel
theorem dX12_is_15 : decode cX12_is 15 = .ok (.iload_n 1, 1) := by decide +kernel
theorem dX12_is_16 : decode cX12_is 16 = .ok (.iadd, 1) := by decide +kernel
theorem dX12_is_17 : decode cX12_is 17 = .ok (.iaload, 1) := by decide +kernel
theorem dX12_is_18 : decode cX12_is 18 = .ok (.goto 5, 3) := by decide +kernel
theorem dX12_is_21 : decode cX12_is 21 = .ok (.bipush (-2), 2) := by decide +kernel
theorem dX12_is_23 : decode cX12_is 23 = .ok (.ireturn, 1) := by decide +kernel
theorem dX12_entry_0 : decode cX12_entry 0 = .ok (.iload_n 2, 1) := by decide +kernel
theorem dX12_entry_1 : decode cX12_entry 1 = .ok (.ifCond .ne 19, 3) := by decide +kernel
theorem dX12_entry_4 : decode cX12_entry 4 = .ok (.aload_n 0, 1) := by decide +kernel
theorem dX12_entry_5 : decode cX12_entry 5 = .ok (.getfield 7, 3) := by decide +kernel
theorem dX12_entry_8 : decode cX12_entry 8 = .ok (.sipush 2424, 3) := by decide +kernel
theorem dX12_entry_11 : decode cX12_entry 11 = .ok (.iload_n 1, 1) := by decide +kernel
theorem dX12_entry_12 : decode cX12_entry 12 = .ok (.iadd, 1) := by decide +kernel
theorem dX12_entry_13 : decode cX12_entry 13 = .ok (.iaload, 1) := by decide +kernel
theorem dX12_entry_14 : decode cX12_entry 14 = .ok (.bipush 64, 2) := by decide +kernel
theorem dX12_entry_16 : decode cX12_entry 16 = .ok (.idiv, 1) := by decide +kernel
theorem dX12_entry_17 : decode cX12_entry 17 = .ok (.goto 40, 3) := by decide +kernel
theorem dX12_entry_20 : decode cX12_entry 20 = .ok (.iload_n 2, 1) := by decide +kernel
theorem dX12_entry_21 : decode cX12_entry 21 = .ok (.iconst 1, 1) := by decide +kernel
theorem dX12_entry_22 : decode cX12_entry 22 = .ok (.if_icmp .ne 22, 3) := by decide +kernel
theorem dX12_entry_25 : decode cX12_entry 25 = .ok (.aload_n 0, 1) := by decide +kernel
theorem dX12_entry_26 : decode cX12_entry 26 = .ok (.getfield 7, 3) := by decide +kernel
theorem dX12_entry_29 : decode cX12_entry 29 = .ok (.sipush 2424, 3) := by decide +kernel
theorem dX12_entry_32 : decode cX12_entry 32 = .ok (.iload_n 1, 1) := by decide +kernel
theorem dX12_entry_33 : decode cX12_entry 33 = .ok (.iadd, 1) := by decide +kernel
theorem dX12_entry_34 : decode cX12_entry 34 = .ok (.iaload, 1) := by decide +kernel
theorem dX12_entry_35 : decode cX12_entry 35 = .ok (.bipush 8, 2) := by decide +kernel
theorem dX12_entry_37 : decode cX12_entry 37 = .ok (.idiv, 1) := by decide +kernel
theorem dX12_entry_38 : decode cX12_entry 38 = .ok (.bipush 8, 2) := by decide +kernel
theorem dX12_entry_40 : decode cX12_entry 40 = .ok (.irem, 1) := by decide +kernel
theorem dX12_entry_41 : decode cX12_entry 41 = .ok (.goto 16, 3) := by decide +kernel
theorem dX12_entry_44 : decode cX12_entry 44 = .ok (.aload_n 0, 1) := by decide +kernel
theorem dX12_entry_45 : decode cX12_entry 45 = .ok (.getfield 7, 3) := by decide +kernel
theorem dX12_entry_48 : decode cX12_entry 48 = .ok (.sipush 2424, 3) := by decide +kernel
theorem dX12_entry_51 : decode cX12_entry 51 = .ok (.iload_n 1, 1) := by decide +kernel
theorem dX12_entry_52 : decode cX12_entry 52 = .ok (.iadd, 1) := by decide +kernel
theorem dX12_entry_53 : decode cX12_entry 53 = .ok (.iaload, 1) := by decide +kernel
theorem dX12_entry_54 : decode cX12_entry 54 = .ok (.bipush 8, 2) := by decide +kernel
theorem dX12_entry_56 : decode cX12_entry 56 = .ok (.irem, 1) := by decide +kernel
theorem dX12_entry_57 : decode cX12_entry 57 = .ok (.ireturn, 1) := by decide +kernel
set_option maxRecDepth 20000 in
theorem ggX12_book_X12_isIn : GoodIn wsX12_book wsX12_isIn := goodIn_r _ [5] rfl (by decide +kernel)
set_option maxRecDepth 20000 in
theorem gX12_book_X12_isIn : GoodIn wsX12_book (va_wsS RX12 68 yX12_isIn wsX12_isIn) := goodIn_app (goodIn_of _ (by decide +kernel)) ggX12_book_X12_isIn
set_option maxRecDepth 20000 in
theorem ggX12_book_X12_entry : GoodIn wsX12_book wsX12_entry := goodIn_r _ [9, 1, 10, 11, 12, 13, 14, 15, 16, 17, 18, 19, 20, 21, 22, 23, 24, 25, 26, 27, 28, 29, 30, 31, 32, 33, 34, 35, 36, 37, 38, 39, 40] rfl (by decide +kernel)
set_option maxRecDepth 20000 in
theorem gX12_book_X12_entry : GoodIn wsX12_book (wsV RX12 405 RX12 yX12_entry wsX12_entry) := goodIn_app (goodIn_of _ (by decide +kernel)) ggX12_book_X12_entry
theorem dX12_book_0 : decode cX12_book 0 = .ok (.iload_n 1, 1) := by decide +kernel
theorem dX12_book_1 : decode cX12_book 1 = .ok (.iconst (-1), 1) := by decide +kernel
theorem dX12_book_2 : decode cX12_book 2 = .ok (.if_icmp .ne 11, 3) := by decide +kernel
theorem dX12_book_5 : decode cX12_book 5 = .ok (.aload_n 0, 1) := by decide +kernel
theorem dX12_book_6 : decode cX12_book 6 = .ok (.getfield 7, 3) := by decide +kernel
theorem dX12_book_9 : decode cX12_book 9 = .ok (.bipush 9, 2) := by decide +kernel
theorem dX12_book_11 : decode cX12_book 11 = .ok (.iaload, 1) := by decide +kernel
theorem dX12_book_12 : decode cX12_book 12 = .ok (.ireturn, 1) := by decide +kernel
theorem dX12_book_13 : decode cX12_book 13 = .ok (.iload_n 1, 1) := by decide +kernel
theorem dX12_book_14 : decode cX12_book 14 = .ok (.iconst 0, 1) := by decide +kernel
theorem dX12_book_15 : decode cX12_book 15 = .ok (.aload_n 0, 1) := by decide +kernel
theorem dX12_book_16 : decode cX12_book 16 = .ok (.getfield 7, 3) := by decide +kernel
theorem dX12_book_19 : decode cX12_book 19 = .ok (.bipush 9, 2) := by decide +kernel
theorem dX12_book_21 : decode cX12_book 21 = .ok (.iaload, 1) := by decide +kernel
theorem dX12_book_22 : decode cX12_book 22 = .ok (.iconst 1, 1) := by decide +kernel
theorem dX12_book_23 : decode cX12_book 23 = .ok (.isub, 1) := by decide +kernel
theorem dX12_book_24 : decode cX12_book 24 = .ok (.invokestatic 68, 3) := by decide +kernel
theorem dX12_book_27 : decode cX12_book 27 = .ok (.ifCond .eq 21, 3) := by decide +kernel
theorem dX12_book_30 : decode cX12_book 30 = .ok (.iload_n 2, 1) := by decide +kernel
theorem dX12_book_31 : decode cX12_book 31 = .ok (.iconst 0, 1) := by decide +kernel
theorem dX12_book_32 : decode cX12_book 32 = .ok (.iconst 2, 1) := by decide +kernel
theorem dX12_book_33 : decode cX12_book 33 = .ok (.invokestatic 68, 3) := by decide +kernel
theorem dX12_book_36 : decode cX12_book 36 = .ok (.ifCond .eq 12, 3) := by decide +kernel
theorem dX12_book_39 : decode cX12_book 39 = .ok (.aload_n 0, 1) := by decide +kernel
theorem dX12_book_40 : decode cX12_book 40 = .ok (.iload_n 1, 1) := by decide +kernel
theorem dX12_book_41 : decode cX12_book 41 = .ok (.iload_n 2, 1) := by decide +kernel
theorem dX12_book_42 : decode cX12_book 42 = .ok (.invokevirtual 405, 3) := by decide +kernel
theorem dX12_book_45 : decode cX12_book 45 = .ok (.goto 5, 3) := by decide +kernel
theorem dX12_book_48 : decode cX12_book 48 = .ok (.bipush (-2), 2) := by decide +kernel
theorem dX12_book_50 : decode cX12_book 50 = .ok (.ireturn, 1) := by decide +kernel
set_option maxRecDepth 20000 in
theorem ggX12_ledger_X12_isClown : GoodIn wsX12_ledger wsX12_isClown := goodIn_r _ [6, 1, 7, 8, 5, 9, 14, 15, 16, 17, 18, 19, 20, 21, 22, 23, 24, 25, 26, 27, 28, 29, 30, 31, 32, 33, 34, 35, 36, 37, 38, 39, 40, 41, 42, 43, 44] rfl (by decide +kernel)
set_option maxRecDepth 20000 in
theorem gX12_ledger_X12_isClown : GoodIn wsX12_ledger (wsV RX12 354 RX12 yX12_isClown wsX12_isClown) := goodIn_app (goodIn_of _ (by decide +kernel)) ggX12_ledger_X12_isClown
set_option maxRecDepth 20000 in
theorem ggX12_ledger_X12_entry : GoodIn wsX12_ledger wsX12_entry := goodIn_r _ [13, 1, 14, 15, 16, 17, 18, 19, 20, 21, 22, 23, 24, 25, 26, 27, 28, 29, 30, 31, 32, 33, 34, 35, 36, 37, 38, 39, 40, 41, 42, 43, 44] rfl (by decide +kernel)
set_option maxRecDepth 20000 in
theorem gX12_ledger_X12_entry : GoodIn wsX12_ledger (wsV RX12 405 RX12 yX12_entry wsX12_entry) := goodIn_app (goodIn_of _ (by decide +kernel)) ggX12_ledger_X12_entry
theorem dX12_ledger_0 : decode cX12_ledger 0 = .ok (.iload_n 1, 1) := by decide +kernel
theorem dX12_ledger_1 : decode cX12_ledger 1 = .ok (.iconst (-1), 1) := by decide +kernel
theorem dX12_ledger_2 : decode cX12_ledger 2 = .ok (.if_icmp .eq 14, 3) := by decide +kernel
theorem dX12_ledger_5 : decode cX12_ledger 5 = .ok (.aload_n 0, 1) := by decide +kernel
theorem dX12_ledger_6 : decode cX12_ledger 6 = .ok (.iload_n 1, 1) := by decide +kernel
theorem dX12_ledger_7 : decode cX12_ledger 7 = .ok (.invokevirtual 354, 3) := by decide +kernel
theorem dX12_ledger_10 : decode cX12_ledger 10 = .ok (.ifCond .ne 6, 3) := by decide +kernel
theorem dX12_ledger_13 : decode cX12_ledger 13 = .ok (.bipush (-2), 2) := by decide +kernel
theorem dX12_ledger_15 : decode cX12_ledger 15 = .ok (.ireturn, 1) := by decide +kernel
theorem dX12_ledger_16 : decode cX12_ledger 16 = .ok (.iconst 0, 1) := by decide +kernel
theorem dX12_ledger_17 : decode cX12_ledger 17 = .ok (.istore_n 2, 1) := by decide +kernel
theorem dX12_ledger_18 : decode cX12_ledger 18 = .ok (.iconst 0, 1) := by decide +kernel
theorem dX12_ledger_19 : decode cX12_ledger 19 = .ok (.istore_n 3, 1) := by decide +kernel
theorem dX12_ledger_20 : decode cX12_ledger 20 = .ok (.iload_n 3, 1) := by decide +kernel
theorem dX12_ledger_21 : decode cX12_ledger 21 = .ok (.aload_n 0, 1) := by decide +kernel
theorem dX12_ledger_22 : decode cX12_ledger 22 = .ok (.getfield 7, 3) := by decide +kernel
theorem dX12_ledger_25 : decode cX12_ledger 25 = .ok (.bipush 9, 2) := by decide +kernel
theorem dX12_ledger_27 : decode cX12_ledger 27 = .ok (.iaload, 1) := by decide +kernel
theorem dX12_ledger_28 : decode cX12_ledger 28 = .ok (.if_icmp .ge 32, 3) := by decide +kernel
theorem dX12_ledger_31 : decode cX12_ledger 31 = .ok (.iload_n 2, 1) := by decide +kernel
theorem dX12_ledger_32 : decode cX12_ledger 32 = .ok (.iload_n 1, 1) := by decide +kernel
theorem dX12_ledger_33 : decode cX12_ledger 33 = .ok (.iconst (-1), 1) := by decide +kernel
theorem dX12_ledger_34 : decode cX12_ledger 34 = .ok (.if_icmp .eq 13, 3) := by decide +kernel
theorem dX12_ledger_37 : decode cX12_ledger 37 = .ok (.aload_n 0, 1) := by decide +kernel
theorem dX12_ledger_38 : decode cX12_ledger 38 = .ok (.iload_n 3, 1) := by decide +kernel
theorem dX12_ledger_39 : decode cX12_ledger 39 = .ok (.iconst 2, 1) := by decide +kernel
theorem dX12_ledger_40 : decode cX12_ledger 40 = .ok (.invokevirtual 405, 3) := by decide +kernel
theorem dX12_ledger_43 : decode cX12_ledger 43 = .ok (.iload_n 1, 1) := by decide +kernel
theorem dX12_ledger_44 : decode cX12_ledger 44 = .ok (.if_icmp .ne 7, 3) := by decide +kernel
theorem dX12_ledger_47 : decode cX12_ledger 47 = .ok (.iconst 1, 1) := by decide +kernel
theorem dX12_ledger_48 : decode cX12_ledger 48 = .ok (.goto 4, 3) := by decide +kernel
theorem dX12_ledger_51 : decode cX12_ledger 51 = .ok (.iconst 0, 1) := by decide +kernel
theorem dX12_ledger_52 : decode cX12_ledger 52 = .ok (.iadd, 1) := by decide +kernel
theorem dX12_ledger_53 : decode cX12_ledger 53 = .ok (.istore_n 2, 1) := by decide +kernel
theorem dX12_ledger_54 : decode cX12_ledger 54 = .ok (.iinc 3 1, 3) := by decide +kernel
theorem dX12_ledger_57 : decode cX12_ledger 57 = .ok (.goto (-37), 3) := by decide +kernel
theorem dX12_ledger_60 : decode cX12_ledger 60 = .ok (.iload_n 2, 1) := by decide +kernel
theorem dX12_ledger_61 : decode cX12_ledger 61 = .ok (.ireturn, 1) := by decide +kernel
set_option maxRecDepth 20000 in
theorem ggX12_clocks_X12_isClown : GoodIn wsX12_clocks wsX12_isClown := goodIn_r _ [6, 1, 7, 8, 5, 9, 14, 15, 16, 17, 18, 19, 20, 21, 22, 23, 24, 25, 26, 27, 28, 29, 30, 31, 32, 33, 34, 35, 36, 37, 38, 39, 40, 41, 42, 43, 44] rfl (by decide +kernel)
set_option maxRecDepth 20000 in
theorem gX12_clocks_X12_isClown : GoodIn wsX12_clocks (wsV RX12 354 RX12 yX12_isClown wsX12_isClown) := goodIn_app (goodIn_of _ (by decide +kernel)) ggX12_clocks_X12_isClown
set_option maxRecDepth 20000 in
theorem ggX12_clocks_X12_get : GoodIn wsX12_clocks wsX12_get := goodIn_r _ [13, 1, 14, 15, 16, 17, 18, 19, 20, 21, 22, 23, 24, 25, 26, 27, 28, 29, 30, 31, 32, 33, 34, 35, 36, 37, 38, 39, 40, 41, 42, 43, 44] rfl (by decide +kernel)
set_option maxRecDepth 20000 in
theorem gX12_clocks_X12_get : GoodIn wsX12_clocks (wsV RX12 84 RX12 yX12_get wsX12_get) := goodIn_app (goodIn_of _ (by decide +kernel)) ggX12_clocks_X12_get
theorem dX12_clocks_0 : decode cX12_clocks 0 = .ok (.aload_n 0, 1) := by decide +kernel
theorem dX12_clocks_1 : decode cX12_clocks 1 = .ok (.iload_n 1, 1) := by decide +kernel
theorem dX12_clocks_2 : decode cX12_clocks 2 = .ok (.invokevirtual 354, 3) := by decide +kernel
theorem dX12_clocks_5 : decode cX12_clocks 5 = .ok (.ifCond .ne 5, 3) := by decide +kernel
theorem dX12_clocks_8 : decode cX12_clocks 8 = .ok (.iconst (-1), 1) := by decide +kernel
theorem dX12_clocks_9 : decode cX12_clocks 9 = .ok (.ireturn, 1) := by decide +kernel
theorem dX12_clocks_10 : decode cX12_clocks 10 = .ok (.iconst 0, 1) := by decide +kernel
theorem dX12_clocks_11 : decode cX12_clocks 11 = .ok (.istore_n 2, 1) := by decide +kernel
theorem dX12_clocks_12 : decode cX12_clocks 12 = .ok (.iconst 0, 1) := by decide +kernel
theorem dX12_clocks_13 : decode cX12_clocks 13 = .ok (.istore_n 3, 1) := by decide +kernel
theorem dX12_clocks_14 : decode cX12_clocks 14 = .ok (.iload_n 3, 1) := by decide +kernel
theorem dX12_clocks_15 : decode cX12_clocks 15 = .ok (.aload_n 0, 1) := by decide +kernel
theorem dX12_clocks_16 : decode cX12_clocks 16 = .ok (.getfield 7, 3) := by decide +kernel
theorem dX12_clocks_19 : decode cX12_clocks 19 = .ok (.iconst 0, 1) := by decide +kernel
theorem dX12_clocks_20 : decode cX12_clocks 20 = .ok (.iaload, 1) := by decide +kernel
theorem dX12_clocks_21 : decode cX12_clocks 21 = .ok (.if_icmp .ge 29, 3) := by decide +kernel
theorem dX12_clocks_24 : decode cX12_clocks 24 = .ok (.iload_n 2, 1) := by decide +kernel
theorem dX12_clocks_25 : decode cX12_clocks 25 = .ok (.aload_n 0, 1) := by decide +kernel
theorem dX12_clocks_26 : decode cX12_clocks 26 = .ok (.iload_n 3, 1) := by decide +kernel
theorem dX12_clocks_27 : decode cX12_clocks 27 = .ok (.iconst 2, 1) := by decide +kernel
theorem dX12_clocks_28 : decode cX12_clocks 28 = .ok (.invokevirtual 84, 3) := by decide +kernel
theorem dX12_clocks_31 : decode cX12_clocks 31 = .ok (.iload_n 1, 1) := by decide +kernel
theorem dX12_clocks_32 : decode cX12_clocks 32 = .ok (.if_icmp .ne 9, 3) := by decide +kernel
theorem dX12_clocks_35 : decode cX12_clocks 35 = .ok (.iconst 1, 1) := by decide +kernel
theorem dX12_clocks_36 : decode cX12_clocks 36 = .ok (.iload_n 3, 1) := by decide +kernel
theorem dX12_clocks_37 : decode cX12_clocks 37 = .ok (.ishl, 1) := by decide +kernel
theorem dX12_clocks_38 : decode cX12_clocks 38 = .ok (.goto 4, 3) := by decide +kernel
theorem dX12_clocks_41 : decode cX12_clocks 41 = .ok (.iconst 0, 1) := by decide +kernel
theorem dX12_clocks_42 : decode cX12_clocks 42 = .ok (.ior, 1) := by decide +kernel
theorem dX12_clocks_43 : decode cX12_clocks 43 = .ok (.istore_n 2, 1) := by decide +kernel
theorem dX12_clocks_44 : decode cX12_clocks 44 = .ok (.iinc 3 1, 3) := by decide +kernel
theorem dX12_clocks_47 : decode cX12_clocks 47 = .ok (.goto (-33), 3) := by decide +kernel
theorem dX12_clocks_50 : decode cX12_clocks 50 = .ok (.iload_n 2, 1) := by decide +kernel
theorem dX12_clocks_51 : decode cX12_clocks 51 = .ok (.ireturn, 1) := by decide +kernel
set_option maxRecDepth 20000 in
theorem ggX12_saddest_X12_get : GoodIn wsX12_saddest wsX12_get := goodIn_r _ [6, 1, 7, 8, 9, 10, 11, 12, 13, 14, 15, 16, 17, 18, 19, 20, 21, 22, 23, 24, 25, 26, 27, 28, 29, 30, 31, 32, 33, 34, 35, 36, 37] rfl (by decide +kernel)
set_option maxRecDepth 20000 in
theorem gX12_saddest_X12_get : GoodIn wsX12_saddest (wsV RX12 84 RX12 yX12_get wsX12_get) := goodIn_app (goodIn_of _ (by decide +kernel)) ggX12_saddest_X12_get
theorem dX12_saddest_0 : decode cX12_saddest 0 = .ok (.iconst (-1), 1) := by decide +kernel
theorem dX12_saddest_1 : decode cX12_saddest 1 = .ok (.istore_n 1, 1) := by decide +kernel
theorem dX12_saddest_2 : decode cX12_saddest 2 = .ok (.iconst 0, 1) := by decide +kernel
theorem dX12_saddest_3 : decode cX12_saddest 3 = .ok (.istore_n 2, 1) := by decide +kernel
theorem dX12_saddest_4 : decode cX12_saddest 4 = .ok (.iload_n 2, 1) := by decide +kernel
theorem dX12_saddest_5 : decode cX12_saddest 5 = .ok (.aload_n 0, 1) := by decide +kernel
theorem dX12_saddest_6 : decode cX12_saddest 6 = .ok (.getfield 7, 3) := by decide +kernel
theorem dX12_saddest_9 : decode cX12_saddest 9 = .ok (.iconst 0, 1) := by decide +kernel
theorem dX12_saddest_10 : decode cX12_saddest 10 = .ok (.iaload, 1) := by decide +kernel
theorem dX12_saddest_11 : decode cX12_saddest 11 = .ok (.if_icmp .ge 31, 3) := by decide +kernel
theorem dX12_saddest_14 : decode cX12_saddest 14 = .ok (.iload_n 1, 1) := by decide +kernel
theorem dX12_saddest_15 : decode cX12_saddest 15 = .ok (.iconst (-1), 1) := by decide +kernel
theorem dX12_saddest_16 : decode cX12_saddest 16 = .ok (.if_icmp .eq 18, 3) := by decide +kernel
theorem dX12_saddest_19 : decode cX12_saddest 19 = .ok (.aload_n 0, 1) := by decide +kernel
theorem dX12_saddest_20 : decode cX12_saddest 20 = .ok (.iload_n 2, 1) := by decide +kernel
theorem dX12_saddest_21 : decode cX12_saddest 21 = .ok (.iconst 0, 1) := by decide +kernel
theorem dX12_saddest_22 : decode cX12_saddest 22 = .ok (.invokevirtual 84, 3) := by decide +kernel
theorem dX12_saddest_25 : decode cX12_saddest 25 = .ok (.aload_n 0, 1) := by decide +kernel
theorem dX12_saddest_26 : decode cX12_saddest 26 = .ok (.iload_n 1, 1) := by decide +kernel
theorem dX12_saddest_27 : decode cX12_saddest 27 = .ok (.iconst 0, 1) := by decide +kernel
theorem dX12_saddest_28 : decode cX12_saddest 28 = .ok (.invokevirtual 84, 3) := by decide +kernel
theorem dX12_saddest_31 : decode cX12_saddest 31 = .ok (.if_icmp .le 5, 3) := by decide +kernel
theorem dX12_saddest_34 : decode cX12_saddest 34 = .ok (.iload_n 2, 1) := by decide +kernel
theorem dX12_saddest_35 : decode cX12_saddest 35 = .ok (.istore_n 1, 1) := by decide +kernel
theorem dX12_saddest_36 : decode cX12_saddest 36 = .ok (.iinc 2 1, 3) := by decide +kernel
theorem dX12_saddest_39 : decode cX12_saddest 39 = .ok (.goto (-35), 3) := by decide +kernel
theorem dX12_saddest_42 : decode cX12_saddest 42 = .ok (.iload_n 1, 1) := by decide +kernel
theorem dX12_saddest_43 : decode cX12_saddest 43 = .ok (.ireturn, 1) := by decide +kernel
set_option maxRecDepth 20000 in
theorem ggX12_tiredest_X12_own : GoodIn wsX12_tiredest wsX12_own := goodIn_r _ [6, 1, 7, 8, 9, 10, 11, 12, 13, 14, 15, 16, 17, 18, 19, 20, 21, 22, 23, 24, 25, 26, 27, 28, 29, 30, 31, 32, 33, 34, 35, 36, 37] rfl (by decide +kernel)
set_option maxRecDepth 20000 in
theorem gX12_tiredest_X12_own : GoodIn wsX12_tiredest (wsV RX12 72 RX12 yX12_own wsX12_own) := goodIn_app (goodIn_of _ (by decide +kernel)) ggX12_tiredest_X12_own
theorem dX12_tiredest_0 : decode cX12_tiredest 0 = .ok (.iconst (-1), 1) := by decide +kernel
theorem dX12_tiredest_1 : decode cX12_tiredest 1 = .ok (.istore_n 1, 1) := by decide +kernel
theorem dX12_tiredest_2 : decode cX12_tiredest 2 = .ok (.iconst 0, 1) := by decide +kernel
theorem dX12_tiredest_3 : decode cX12_tiredest 3 = .ok (.istore_n 2, 1) := by decide +kernel
theorem dX12_tiredest_4 : decode cX12_tiredest 4 = .ok (.iload_n 2, 1) := by decide +kernel
theorem dX12_tiredest_5 : decode cX12_tiredest 5 = .ok (.aload_n 0, 1) := by decide +kernel
theorem dX12_tiredest_6 : decode cX12_tiredest 6 = .ok (.getfield 7, 3) := by decide +kernel
theorem dX12_tiredest_9 : decode cX12_tiredest 9 = .ok (.iconst 1, 1) := by decide +kernel
theorem dX12_tiredest_10 : decode cX12_tiredest 10 = .ok (.iaload, 1) := by decide +kernel
theorem dX12_tiredest_11 : decode cX12_tiredest 11 = .ok (.if_icmp .ge 31, 3) := by decide +kernel
theorem dX12_tiredest_14 : decode cX12_tiredest 14 = .ok (.iload_n 1, 1) := by decide +kernel
theorem dX12_tiredest_15 : decode cX12_tiredest 15 = .ok (.iconst (-1), 1) := by decide +kernel
theorem dX12_tiredest_16 : decode cX12_tiredest 16 = .ok (.if_icmp .eq 18, 3) := by decide +kernel
theorem dX12_tiredest_19 : decode cX12_tiredest 19 = .ok (.aload_n 0, 1) := by decide +kernel
theorem dX12_tiredest_20 : decode cX12_tiredest 20 = .ok (.iload_n 2, 1) := by decide +kernel
theorem dX12_tiredest_21 : decode cX12_tiredest 21 = .ok (.iconst 0, 1) := by decide +kernel
theorem dX12_tiredest_22 : decode cX12_tiredest 22 = .ok (.invokevirtual 72, 3) := by decide +kernel
theorem dX12_tiredest_25 : decode cX12_tiredest 25 = .ok (.aload_n 0, 1) := by decide +kernel
theorem dX12_tiredest_26 : decode cX12_tiredest 26 = .ok (.iload_n 1, 1) := by decide +kernel
theorem dX12_tiredest_27 : decode cX12_tiredest 27 = .ok (.iconst 0, 1) := by decide +kernel
theorem dX12_tiredest_28 : decode cX12_tiredest 28 = .ok (.invokevirtual 72, 3) := by decide +kernel
theorem dX12_tiredest_31 : decode cX12_tiredest 31 = .ok (.if_icmp .le 5, 3) := by decide +kernel
theorem dX12_tiredest_34 : decode cX12_tiredest 34 = .ok (.iload_n 2, 1) := by decide +kernel
theorem dX12_tiredest_35 : decode cX12_tiredest 35 = .ok (.istore_n 1, 1) := by decide +kernel
theorem dX12_tiredest_36 : decode cX12_tiredest 36 = .ok (.iinc 2 1, 3) := by decide +kernel
theorem dX12_tiredest_39 : decode cX12_tiredest 39 = .ok (.goto (-35), 3) := by decide +kernel
theorem dX12_tiredest_42 : decode cX12_tiredest 42 = .ok (.iload_n 1, 1) := by decide +kernel
theorem dX12_tiredest_43 : decode cX12_tiredest 43 = .ok (.ireturn, 1) := by decide +kernel
set_option maxRecDepth 20000 in
theorem ggX12_sitting_X12_isAtHouse : GoodIn wsX12_sitting wsX12_isAtHouse := goodIn_r _ [6, 7, 8, 9, 5, 10, 1, 11, 12, 13, 14, 15, 16, 17, 18, 19, 20, 21, 22, 23, 24, 25, 26, 27, 28, 29, 30, 31, 32, 33, 34, 35, 36, 37, 38, 39, 40, 41, 42, 43, 44, 45, 46, 47, 48] rfl (by decide +kernel)
set_option maxRecDepth 20000 in
theorem gX12_sitting_X12_isAtHouse : GoodIn wsX12_sitting (wsV RX12 366 RX12 yX12_isAtHouse wsX12_isAtHouse) := goodIn_app (goodIn_of _ (by decide +kernel)) ggX12_sitting_X12_isAtHouse
set_option maxRecDepth 20000 in
theorem ggX12_sitting_X12_own : GoodIn wsX12_sitting wsX12_own := goodIn_r _ [17, 1, 18, 19, 20, 21, 22, 23, 24, 25, 26, 27, 28, 29, 30, 31, 32, 33, 34, 35, 36, 37, 38, 39, 40, 41, 42, 43, 44, 45, 46, 47, 48] rfl (by decide +kernel)
set_option maxRecDepth 20000 in
theorem gX12_sitting_X12_own : GoodIn wsX12_sitting (wsV RX12 72 RX12 yX12_own wsX12_own) := goodIn_app (goodIn_of _ (by decide +kernel)) ggX12_sitting_X12_own
theorem dX12_sitting_0 : decode cX12_sitting 0 = .ok (.iconst 0, 1) := by decide +kernel
theorem dX12_sitting_1 : decode cX12_sitting 1 = .ok (.istore_n 1, 1) := by decide +kernel
theorem dX12_sitting_2 : decode cX12_sitting 2 = .ok (.iconst 0, 1) := by decide +kernel
theorem dX12_sitting_3 : decode cX12_sitting 3 = .ok (.istore_n 2, 1) := by decide +kernel
theorem dX12_sitting_4 : decode cX12_sitting 4 = .ok (.iload_n 2, 1) := by decide +kernel
theorem dX12_sitting_5 : decode cX12_sitting 5 = .ok (.aload_n 0, 1) := by decide +kernel
theorem dX12_sitting_6 : decode cX12_sitting 6 = .ok (.getfield 7, 3) := by decide +kernel
theorem dX12_sitting_9 : decode cX12_sitting 9 = .ok (.iconst 1, 1) := by decide +kernel
theorem dX12_sitting_10 : decode cX12_sitting 10 = .ok (.iaload, 1) := by decide +kernel
theorem dX12_sitting_11 : decode cX12_sitting 11 = .ok (.if_icmp .ge 38, 3) := by decide +kernel
theorem dX12_sitting_14 : decode cX12_sitting 14 = .ok (.iload_n 1, 1) := by decide +kernel
theorem dX12_sitting_15 : decode cX12_sitting 15 = .ok (.aload_n 0, 1) := by decide +kernel
theorem dX12_sitting_16 : decode cX12_sitting 16 = .ok (.iload_n 2, 1) := by decide +kernel
theorem dX12_sitting_17 : decode cX12_sitting 17 = .ok (.invokevirtual 366, 3) := by decide +kernel
theorem dX12_sitting_20 : decode cX12_sitting 20 = .ok (.ifCond .eq 20, 3) := by decide +kernel
theorem dX12_sitting_23 : decode cX12_sitting 23 = .ok (.aload_n 0, 1) := by decide +kernel
theorem dX12_sitting_24 : decode cX12_sitting 24 = .ok (.iload_n 2, 1) := by decide +kernel
theorem dX12_sitting_25 : decode cX12_sitting 25 = .ok (.iconst 0, 1) := by decide +kernel
theorem dX12_sitting_26 : decode cX12_sitting 26 = .ok (.invokevirtual 72, 3) := by decide +kernel
theorem dX12_sitting_29 : decode cX12_sitting 29 = .ok (.bipush 9, 2) := by decide +kernel
theorem dX12_sitting_31 : decode cX12_sitting 31 = .ok (.if_icmp .ne 9, 3) := by decide +kernel
theorem dX12_sitting_34 : decode cX12_sitting 34 = .ok (.iconst 1, 1) := by decide +kernel
theorem dX12_sitting_35 : decode cX12_sitting 35 = .ok (.iload_n 2, 1) := by decide +kernel
theorem dX12_sitting_36 : decode cX12_sitting 36 = .ok (.ishl, 1) := by decide +kernel
theorem dX12_sitting_37 : decode cX12_sitting 37 = .ok (.goto 4, 3) := by decide +kernel
theorem dX12_sitting_40 : decode cX12_sitting 40 = .ok (.iconst 0, 1) := by decide +kernel
theorem dX12_sitting_41 : decode cX12_sitting 41 = .ok (.ior, 1) := by decide +kernel
theorem dX12_sitting_42 : decode cX12_sitting 42 = .ok (.istore_n 1, 1) := by decide +kernel
theorem dX12_sitting_43 : decode cX12_sitting 43 = .ok (.iinc 2 1, 3) := by decide +kernel
theorem dX12_sitting_46 : decode cX12_sitting 46 = .ok (.goto (-42), 3) := by decide +kernel
theorem dX12_sitting_49 : decode cX12_sitting 49 = .ok (.iload_n 1, 1) := by decide +kernel
theorem dX12_sitting_50 : decode cX12_sitting 50 = .ok (.ireturn, 1) := by decide +kernel
theorem dX12_setAside_0 : decode cX12_setAside 0 = .ok (.bipush 7, 2) := by decide +kernel
theorem dX12_setAside_2 : decode cX12_setAside 2 = .ok (.istore_n 1, 1) := by decide +kernel
theorem dX12_setAside_3 : decode cX12_setAside 3 = .ok (.iload_n 1, 1) := by decide +kernel
theorem dX12_setAside_4 : decode cX12_setAside 4 = .ok (.bipush 71, 2) := by decide +kernel
theorem dX12_setAside_6 : decode cX12_setAside 6 = .ok (.if_icmp .ge 21, 3) := by decide +kernel
theorem dX12_setAside_9 : decode cX12_setAside 9 = .ok (.aload_n 0, 1) := by decide +kernel
theorem dX12_setAside_10 : decode cX12_setAside 10 = .ok (.getfield 43, 3) := by decide +kernel
theorem dX12_setAside_13 : decode cX12_setAside 13 = .ok (.iload_n 1, 1) := by decide +kernel
theorem dX12_setAside_14 : decode cX12_setAside 14 = .ok (.aload_n 0, 1) := by decide +kernel
theorem dX12_setAside_15 : decode cX12_setAside 15 = .ok (.getfield 7, 3) := by decide +kernel
theorem dX12_setAside_18 : decode cX12_setAside 18 = .ok (.iload_n 1, 1) := by decide +kernel
theorem dX12_setAside_19 : decode cX12_setAside 19 = .ok (.iaload, 1) := by decide +kernel
theorem dX12_setAside_20 : decode cX12_setAside 20 = .ok (.iastore, 1) := by decide +kernel
theorem dX12_setAside_21 : decode cX12_setAside 21 = .ok (.iinc 1 1, 3) := by decide +kernel
theorem dX12_setAside_24 : decode cX12_setAside 24 = .ok (.goto (-21), 3) := by decide +kernel
theorem dX12_setAside_27 : decode cX12_setAside 27 = .ok (.return_, 1) := by decide +kernel
theorem dX12_putBack_0 : decode cX12_putBack 0 = .ok (.bipush 7, 2) := by decide +kernel
theorem dX12_putBack_2 : decode cX12_putBack 2 = .ok (.istore_n 1, 1) := by decide +kernel
theorem dX12_putBack_3 : decode cX12_putBack 3 = .ok (.iload_n 1, 1) := by decide +kernel
theorem dX12_putBack_4 : decode cX12_putBack 4 = .ok (.bipush 71, 2) := by decide +kernel
theorem dX12_putBack_6 : decode cX12_putBack 6 = .ok (.if_icmp .ge 21, 3) := by decide +kernel
theorem dX12_putBack_9 : decode cX12_putBack 9 = .ok (.aload_n 0, 1) := by decide +kernel
theorem dX12_putBack_10 : decode cX12_putBack 10 = .ok (.getfield 7, 3) := by decide +kernel
theorem dX12_putBack_13 : decode cX12_putBack 13 = .ok (.iload_n 1, 1) := by decide +kernel
theorem dX12_putBack_14 : decode cX12_putBack 14 = .ok (.aload_n 0, 1) := by decide +kernel
theorem dX12_putBack_15 : decode cX12_putBack 15 = .ok (.getfield 43, 3) := by decide +kernel
theorem dX12_putBack_18 : decode cX12_putBack 18 = .ok (.iload_n 1, 1) := by decide +kernel
theorem dX12_putBack_19 : decode cX12_putBack 19 = .ok (.iaload, 1) := by decide +kernel
theorem dX12_putBack_20 : decode cX12_putBack 20 = .ok (.iastore, 1) := by decide +kernel
theorem dX12_putBack_21 : decode cX12_putBack 21 = .ok (.iinc 1 1, 3) := by decide +kernel
theorem dX12_putBack_24 : decode cX12_putBack 24 = .ok (.goto (-21), 3) := by decide +kernel
theorem dX12_putBack_27 : decode cX12_putBack 27 = .ok (.return_, 1) := by decide +kernel
set_option maxRecDepth 20000 in
theorem ggX12_foretold_X12_isIn : GoodIn wsX12_foretold wsX12_isIn := goodIn_r _ [5] rfl (by decide +kernel)
set_option maxRecDepth 20000 in
theorem gX12_foretold_X12_isIn : GoodIn wsX12_foretold (va_wsS RX12 68 yX12_isIn wsX12_isIn) := goodIn_app (goodIn_of _ (by decide +kernel)) ggX12_foretold_X12_isIn
set_option maxRecDepth 20000 in
theorem ggX12_foretold_X12_isHouse : GoodIn wsX12_foretold wsX12_isHouse := goodIn_r _ [9, 1, 2, 3, 4, 5, 90, 91, 92, 93, 94, 95, 96, 97, 98, 99, 100, 101, 102, 103, 104, 105, 106, 107, 108, 109, 110, 111, 112, 113, 114, 115, 116, 117, 118, 119, 120] rfl (by decide +kernel)
set_option maxRecDepth 20000 in
theorem gX12_foretold_X12_isHouse : GoodIn wsX12_foretold (wsV RX12 357 RX12 yX12_isHouse wsX12_isHouse) := goodIn_app (goodIn_of _ (by decide +kernel)) ggX12_foretold_X12_isHouse
set_option maxRecDepth 20000 in
theorem ggX12_foretold_X12_setAside : GoodIn wsX12_foretold wsX12_setAside := goodIn_r _ [13, 14, 1, 90, 91, 92, 93, 94, 95, 96, 97, 98, 99, 100, 101, 102, 103, 104, 105, 106, 107, 108, 109, 110, 111, 112, 113, 114, 115, 116, 117, 118, 119, 120] rfl (by decide +kernel)
set_option maxRecDepth 20000 in
theorem gX12_foretold_X12_setAside : GoodIn wsX12_foretold (wsV RX12 408 RX12 yX12_setAside wsX12_setAside) := goodIn_app (goodIn_of _ (by decide +kernel)) ggX12_foretold_X12_setAside
set_option maxRecDepth 20000 in
theorem ggX12_foretold_X12_pass : GoodIn wsX12_foretold wsX12_pass := goodIn_r _ [18, 1, 19, 20, 21, 4, 22, 23, 24, 25, 26, 27, 28, 29, 30, 31, 32, 33, 34, 35, 36, 37, 38, 39, 40, 41, 42, 43, 44, 45, 46, 47, 48, 49, 50, 51, 52, 53, 54, 55, 56, 57, 58, 59, 60, 61, 62, 63, 64, 65, 66, 67, 68, 69, 70, 71, 72, 73, 74, 75, 76, 77, 78, 79, 80, 81, 82, 83, 84, 85, 90, 91, 92, 93, 94, 95, 96, 97, 98, 99, 100, 101, 102, 103, 104, 105, 106, 107, 108, 109, 110, 111, 112, 113, 114, 115, 116, 117, 118, 119, 120] rfl (by decide +kernel)
set_option maxRecDepth 20000 in
theorem gX12_foretold_X12_pass : GoodIn wsX12_foretold (wsV RX12 375 RX12 yX12_pass wsX12_pass) := goodIn_app (goodIn_of _ (by decide +kernel)) ggX12_foretold_X12_pass
set_option maxRecDepth 20000 in
theorem ggX12_foretold_X12_get : GoodIn wsX12_foretold wsX12_get := goodIn_r _ [22, 1, 90, 91, 92, 93, 94, 95, 96, 97, 98, 99, 100, 101, 102, 103, 104, 105, 106, 107, 108, 109, 110, 111, 112, 113, 114, 115, 116, 117, 118, 119, 120] rfl (by decide +kernel)
set_option maxRecDepth 20000 in
theorem gX12_foretold_X12_get : GoodIn wsX12_foretold (wsV RX12 84 RX12 yX12_get wsX12_get) := goodIn_app (goodIn_of _ (by decide +kernel)) ggX12_foretold_X12_get
set_option maxRecDepth 20000 in
theorem ggX12_foretold_X12_putBack : GoodIn wsX12_foretold wsX12_putBack := goodIn_r _ [89, 1, 14, 90, 91, 92, 93, 94, 95, 96, 97, 98, 99, 100, 101, 102, 103, 104, 105, 106, 107, 108, 109, 110, 111, 112, 113, 114, 115, 116, 117, 118, 119, 120] rfl (by decide +kernel)
set_option maxRecDepth 20000 in
theorem gX12_foretold_X12_putBack : GoodIn wsX12_foretold (wsV RX12 411 RX12 yX12_putBack wsX12_putBack) := goodIn_app (goodIn_of _ (by decide +kernel)) ggX12_foretold_X12_putBack
theorem dX12_foretold_0 : decode cX12_foretold 0 = .ok (.iload_n 1, 1) := by decide +kernel
theorem dX12_foretold_1 : decode cX12_foretold 1 = .ok (.iconst 1, 1) := by decide +kernel
theorem dX12_foretold_2 : decode cX12_foretold 2 = .ok (.bipush 60, 2) := by decide +kernel
theorem dX12_foretold_4 : decode cX12_foretold 4 = .ok (.invokestatic 68, 3) := by decide +kernel
theorem dX12_foretold_7 : decode cX12_foretold 7 = .ok (.ifCond .eq 11, 3) := by decide +kernel
theorem dX12_foretold_10 : decode cX12_foretold 10 = .ok (.aload_n 0, 1) := by decide +kernel
theorem dX12_foretold_11 : decode cX12_foretold 11 = .ok (.iload_n 2, 1) := by decide +kernel
theorem dX12_foretold_12 : decode cX12_foretold 12 = .ok (.invokevirtual 357, 3) := by decide +kernel
theorem dX12_foretold_15 : decode cX12_foretold 15 = .ok (.ifCond .ne 5, 3) := by decide +kernel
theorem dX12_foretold_18 : decode cX12_foretold 18 = .ok (.iconst (-1), 1) := by decide +kernel
theorem dX12_foretold_19 : decode cX12_foretold 19 = .ok (.ireturn, 1) := by decide +kernel
theorem dX12_foretold_20 : decode cX12_foretold 20 = .ok (.aload_n 0, 1) := by decide +kernel
theorem dX12_foretold_21 : decode cX12_foretold 21 = .ok (.invokevirtual 408, 3) := by decide +kernel
theorem dX12_foretold_24 : decode cX12_foretold 24 = .ok (.iconst 0, 1) := by decide +kernel
theorem dX12_foretold_25 : decode cX12_foretold 25 = .ok (.istore_n 3, 1) := by decide +kernel
theorem dX12_foretold_26 : decode cX12_foretold 26 = .ok (.iload_n 3, 1) := by decide +kernel
theorem dX12_foretold_27 : decode cX12_foretold 27 = .ok (.iload_n 1, 1) := by decide +kernel
theorem dX12_foretold_28 : decode cX12_foretold 28 = .ok (.if_icmp .ge 26, 3) := by decide +kernel
theorem dX12_foretold_31 : decode cX12_foretold 31 = .ok (.aload_n 0, 1) := by decide +kernel
theorem dX12_foretold_32 : decode cX12_foretold 32 = .ok (.getfield 7, 3) := by decide +kernel
theorem dX12_foretold_35 : decode cX12_foretold 35 = .ok (.bipush 7, 2) := by decide +kernel
theorem dX12_foretold_37 : decode cX12_foretold 37 = .ok (.iaload, 1) := by decide +kernel
theorem dX12_foretold_38 : decode cX12_foretold 38 = .ok (.sipush 9999, 3) := by decide +kernel
theorem dX12_foretold_41 : decode cX12_foretold 41 = .ok (.if_icmp .ge 7, 3) := by decide +kernel
theorem dX12_foretold_44 : decode cX12_foretold 44 = .ok (.aload_n 0, 1) := by decide +kernel
theorem dX12_foretold_45 : decode cX12_foretold 45 = .ok (.invokevirtual 375, 3) := by decide +kernel
theorem dX12_foretold_48 : decode cX12_foretold 48 = .ok (.iinc 3 1, 3) := by decide +kernel
theorem dX12_foretold_51 : decode cX12_foretold 51 = .ok (.goto (-25), 3) := by decide +kernel
theorem dX12_foretold_54 : decode cX12_foretold 54 = .ok (.aload_n 0, 1) := by decide +kernel
theorem dX12_foretold_55 : decode cX12_foretold 55 = .ok (.iload_n 2, 1) := by decide +kernel
theorem dX12_foretold_56 : decode cX12_foretold 56 = .ok (.iconst 0, 1) := by decide +kernel
theorem dX12_foretold_57 : decode cX12_foretold 57 = .ok (.invokevirtual 84, 3) := by decide +kernel
theorem dX12_foretold_60 : decode cX12_foretold 60 = .ok (.istore_n 3, 1) := by decide +kernel
theorem dX12_foretold_61 : decode cX12_foretold 61 = .ok (.aload_n 0, 1) := by decide +kernel
theorem dX12_foretold_62 : decode cX12_foretold 62 = .ok (.invokevirtual 411, 3) := by decide +kernel
theorem dX12_foretold_65 : decode cX12_foretold 65 = .ok (.iload_n 3, 1) := by decide +kernel
theorem dX12_foretold_66 : decode cX12_foretold 66 = .ok (.ireturn, 1) := by decide +kernel
set_option maxRecDepth 20000 in
theorem ggX12_griefOfAll_X12_get : GoodIn wsX12_griefOfAll wsX12_get := goodIn_r _ [6, 1, 7, 8, 9, 10, 11, 12, 13, 14, 15, 16, 17, 18, 19, 20, 21, 22, 23, 24, 25, 26, 27, 28, 29, 30, 31, 32, 33, 34, 35, 36, 37] rfl (by decide +kernel)
set_option maxRecDepth 20000 in
theorem gX12_griefOfAll_X12_get : GoodIn wsX12_griefOfAll (wsV RX12 84 RX12 yX12_get wsX12_get) := goodIn_app (goodIn_of _ (by decide +kernel)) ggX12_griefOfAll_X12_get
theorem dX12_griefOfAll_0 : decode cX12_griefOfAll 0 = .ok (.iconst 0, 1) := by decide +kernel
theorem dX12_griefOfAll_1 : decode cX12_griefOfAll 1 = .ok (.istore_n 1, 1) := by decide +kernel
theorem dX12_griefOfAll_2 : decode cX12_griefOfAll 2 = .ok (.iconst 0, 1) := by decide +kernel
theorem dX12_griefOfAll_3 : decode cX12_griefOfAll 3 = .ok (.istore_n 2, 1) := by decide +kernel
theorem dX12_griefOfAll_4 : decode cX12_griefOfAll 4 = .ok (.iload_n 2, 1) := by decide +kernel
theorem dX12_griefOfAll_5 : decode cX12_griefOfAll 5 = .ok (.aload_n 0, 1) := by decide +kernel
theorem dX12_griefOfAll_6 : decode cX12_griefOfAll 6 = .ok (.getfield 7, 3) := by decide +kernel
theorem dX12_griefOfAll_9 : decode cX12_griefOfAll 9 = .ok (.iconst 0, 1) := by decide +kernel
theorem dX12_griefOfAll_10 : decode cX12_griefOfAll 10 = .ok (.iaload, 1) := by decide +kernel
theorem dX12_griefOfAll_11 : decode cX12_griefOfAll 11 = .ok (.if_icmp .ge 18, 3) := by decide +kernel
theorem dX12_griefOfAll_14 : decode cX12_griefOfAll 14 = .ok (.iload_n 1, 1) := by decide +kernel
theorem dX12_griefOfAll_15 : decode cX12_griefOfAll 15 = .ok (.aload_n 0, 1) := by decide +kernel
theorem dX12_griefOfAll_16 : decode cX12_griefOfAll 16 = .ok (.iload_n 2, 1) := by decide +kernel
theorem dX12_griefOfAll_17 : decode cX12_griefOfAll 17 = .ok (.iconst 0, 1) := by decide +kernel
theorem dX12_griefOfAll_18 : decode cX12_griefOfAll 18 = .ok (.invokevirtual 84, 3) := by decide +kernel
theorem dX12_griefOfAll_21 : decode cX12_griefOfAll 21 = .ok (.iadd, 1) := by decide +kernel
theorem dX12_griefOfAll_22 : decode cX12_griefOfAll 22 = .ok (.istore_n 1, 1) := by decide +kernel
theorem dX12_griefOfAll_23 : decode cX12_griefOfAll 23 = .ok (.iinc 2 1, 3) := by decide +kernel
theorem dX12_griefOfAll_26 : decode cX12_griefOfAll 26 = .ok (.goto (-22), 3) := by decide +kernel
theorem dX12_griefOfAll_29 : decode cX12_griefOfAll 29 = .ok (.iload_n 1, 1) := by decide +kernel
theorem dX12_griefOfAll_30 : decode cX12_griefOfAll 30 = .ok (.ireturn, 1) := by decide +kernel
set_option maxRecDepth 20000 in
theorem ggX12_heavy_X12_isIn : GoodIn wsX12_heavy wsX12_isIn := goodIn_r _ [5] rfl (by decide +kernel)
set_option maxRecDepth 20000 in
theorem gX12_heavy_X12_isIn : GoodIn wsX12_heavy (va_wsS RX12 68 yX12_isIn wsX12_isIn) := goodIn_app (goodIn_of _ (by decide +kernel)) ggX12_heavy_X12_isIn
set_option maxRecDepth 20000 in
theorem ggX12_heavy_X12_setAside : GoodIn wsX12_heavy wsX12_setAside := goodIn_r _ [9, 10, 1, 90, 91, 92, 93, 94, 95, 96, 97, 98, 99, 100, 101, 102, 103, 104, 105, 106, 107, 108, 109, 110, 111, 112, 113, 114, 115, 116, 117, 118, 119, 120] rfl (by decide +kernel)
set_option maxRecDepth 20000 in
theorem gX12_heavy_X12_setAside : GoodIn wsX12_heavy (wsV RX12 408 RX12 yX12_setAside wsX12_setAside) := goodIn_app (goodIn_of _ (by decide +kernel)) ggX12_heavy_X12_setAside
set_option maxRecDepth 20000 in
theorem ggX12_heavy_X12_griefOfAll : GoodIn wsX12_heavy wsX12_griefOfAll := goodIn_r _ [14, 1, 15, 16, 17, 4, 18, 90, 91, 92, 93, 94, 95, 96, 97, 98, 99, 100, 101, 102, 103, 104, 105, 106, 107, 108, 109, 110, 111, 112, 113, 114, 115, 116, 117, 118, 119, 120] rfl (by decide +kernel)
set_option maxRecDepth 20000 in
theorem gX12_heavy_X12_griefOfAll : GoodIn wsX12_heavy (wsV RX12 414 RX12 yX12_griefOfAll wsX12_griefOfAll) := goodIn_app (goodIn_of _ (by decide +kernel)) ggX12_heavy_X12_griefOfAll
set_option maxRecDepth 20000 in
theorem ggX12_heavy_X12_pass : GoodIn wsX12_heavy wsX12_pass := goodIn_r _ [22, 1, 15, 16, 17, 4, 18, 23, 24, 25, 26, 27, 28, 29, 30, 31, 32, 33, 34, 35, 36, 37, 38, 39, 40, 41, 42, 43, 44, 45, 46, 47, 48, 49, 50, 51, 52, 53, 54, 55, 56, 57, 58, 59, 60, 61, 62, 63, 64, 65, 66, 67, 68, 69, 70, 71, 72, 73, 74, 75, 76, 77, 78, 79, 80, 81, 82, 83, 84, 85, 90, 91, 92, 93, 94, 95, 96, 97, 98, 99, 100, 101, 102, 103, 104, 105, 106, 107, 108, 109, 110, 111, 112, 113, 114, 115, 116, 117, 118, 119, 120] rfl (by decide +kernel)
set_option maxRecDepth 20000 in
theorem gX12_heavy_X12_pass : GoodIn wsX12_heavy (wsV RX12 375 RX12 yX12_pass wsX12_pass) := goodIn_app (goodIn_of _ (by decide +kernel)) ggX12_heavy_X12_pass
set_option maxRecDepth 20000 in
theorem ggX12_heavy_X12_putBack : GoodIn wsX12_heavy wsX12_putBack := goodIn_r _ [89, 1, 10, 90, 91, 92, 93, 94, 95, 96, 97, 98, 99, 100, 101, 102, 103, 104, 105, 106, 107, 108, 109, 110, 111, 112, 113, 114, 115, 116, 117, 118, 119, 120] rfl (by decide +kernel)
set_option maxRecDepth 20000 in
theorem gX12_heavy_X12_putBack : GoodIn wsX12_heavy (wsV RX12 411 RX12 yX12_putBack wsX12_putBack) := goodIn_app (goodIn_of _ (by decide +kernel)) ggX12_heavy_X12_putBack
theorem dX12_heavy_0 : decode cX12_heavy 0 = .ok (.iload_n 1, 1) := by decide +kernel
theorem dX12_heavy_1 : decode cX12_heavy 1 = .ok (.iconst 0, 1) := by decide +kernel
theorem dX12_heavy_2 : decode cX12_heavy 2 = .ok (.sipush 600, 3) := by decide +kernel
theorem dX12_heavy_5 : decode cX12_heavy 5 = .ok (.invokestatic 68, 3) := by decide +kernel
theorem dX12_heavy_8 : decode cX12_heavy 8 = .ok (.ifCond .ne 5, 3) := by decide +kernel
theorem dX12_heavy_11 : decode cX12_heavy 11 = .ok (.iconst (-1), 1) := by decide +kernel
theorem dX12_heavy_12 : decode cX12_heavy 12 = .ok (.ireturn, 1) := by decide +kernel
theorem dX12_heavy_13 : decode cX12_heavy 13 = .ok (.aload_n 0, 1) := by decide +kernel
theorem dX12_heavy_14 : decode cX12_heavy 14 = .ok (.invokevirtual 408, 3) := by decide +kernel
theorem dX12_heavy_17 : decode cX12_heavy 17 = .ok (.iconst 0, 1) := by decide +kernel
theorem dX12_heavy_18 : decode cX12_heavy 18 = .ok (.istore_n 2, 1) := by decide +kernel
theorem dX12_heavy_19 : decode cX12_heavy 19 = .ok (.iload_n 2, 1) := by decide +kernel
theorem dX12_heavy_20 : decode cX12_heavy 20 = .ok (.bipush 60, 2) := by decide +kernel
theorem dX12_heavy_22 : decode cX12_heavy 22 = .ok (.if_icmp .ge 34, 3) := by decide +kernel
theorem dX12_heavy_25 : decode cX12_heavy 25 = .ok (.aload_n 0, 1) := by decide +kernel
theorem dX12_heavy_26 : decode cX12_heavy 26 = .ok (.getfield 7, 3) := by decide +kernel
theorem dX12_heavy_29 : decode cX12_heavy 29 = .ok (.bipush 7, 2) := by decide +kernel
theorem dX12_heavy_31 : decode cX12_heavy 31 = .ok (.iaload, 1) := by decide +kernel
theorem dX12_heavy_32 : decode cX12_heavy 32 = .ok (.sipush 9999, 3) := by decide +kernel
theorem dX12_heavy_35 : decode cX12_heavy 35 = .ok (.if_icmp .ge 21, 3) := by decide +kernel
theorem dX12_heavy_38 : decode cX12_heavy 38 = .ok (.aload_n 0, 1) := by decide +kernel
theorem dX12_heavy_39 : decode cX12_heavy 39 = .ok (.invokevirtual 414, 3) := by decide +kernel
theorem dX12_heavy_42 : decode cX12_heavy 42 = .ok (.iload_n 1, 1) := by decide +kernel
theorem dX12_heavy_43 : decode cX12_heavy 43 = .ok (.if_icmp .ge 13, 3) := by decide +kernel
theorem dX12_heavy_46 : decode cX12_heavy 46 = .ok (.aload_n 0, 1) := by decide +kernel
theorem dX12_heavy_47 : decode cX12_heavy 47 = .ok (.invokevirtual 375, 3) := by decide +kernel
theorem dX12_heavy_50 : decode cX12_heavy 50 = .ok (.iinc 2 1, 3) := by decide +kernel
theorem dX12_heavy_53 : decode cX12_heavy 53 = .ok (.goto (-34), 3) := by decide +kernel
theorem dX12_heavy_56 : decode cX12_heavy 56 = .ok (.aload_n 0, 1) := by decide +kernel
theorem dX12_heavy_57 : decode cX12_heavy 57 = .ok (.invokevirtual 414, 3) := by decide +kernel
theorem dX12_heavy_60 : decode cX12_heavy 60 = .ok (.iload_n 1, 1) := by decide +kernel
theorem dX12_heavy_61 : decode cX12_heavy 61 = .ok (.if_icmp .lt 7, 3) := by decide +kernel
theorem dX12_heavy_64 : decode cX12_heavy 64 = .ok (.iload_n 2, 1) := by decide +kernel
theorem dX12_heavy_65 : decode cX12_heavy 65 = .ok (.goto 4, 3) := by decide +kernel
theorem dX12_heavy_68 : decode cX12_heavy 68 = .ok (.iconst (-1), 1) := by decide +kernel
theorem dX12_heavy_69 : decode cX12_heavy 69 = .ok (.istore_n 3, 1) := by decide +kernel
theorem dX12_heavy_70 : decode cX12_heavy 70 = .ok (.aload_n 0, 1) := by decide +kernel
theorem dX12_heavy_71 : decode cX12_heavy 71 = .ok (.invokevirtual 411, 3) := by decide +kernel
theorem dX12_heavy_74 : decode cX12_heavy 74 = .ok (.iload_n 3, 1) := by decide +kernel
theorem dX12_heavy_75 : decode cX12_heavy 75 = .ok (.ireturn, 1) := by decide +kernel
set_option maxRecDepth 20000 in
theorem ggX12_told_X12_isKind : GoodIn wsX12_told wsX12_isKind := goodIn_r _ [4, 5, 6, 3, 7] rfl (by decide +kernel)
set_option maxRecDepth 20000 in
theorem gX12_told_X12_isKind : GoodIn wsX12_told (va_wsS RX12 93 yX12_isKind wsX12_isKind) := goodIn_app (goodIn_of _ (by decide +kernel)) ggX12_told_X12_isKind
set_option maxRecDepth 20000 in
theorem ggX12_told_X12_isIn : GoodIn wsX12_told wsX12_isIn := goodIn_r _ [7] rfl (by decide +kernel)
set_option maxRecDepth 20000 in
theorem gX12_told_X12_isIn : GoodIn wsX12_told (va_wsS RX12 68 yX12_isIn wsX12_isIn) := goodIn_app (goodIn_of _ (by decide +kernel)) ggX12_told_X12_isIn
set_option maxRecDepth 20000 in
theorem ggX12_told_X12_moodBy : GoodIn wsX12_told wsX12_moodBy := goodIn_r _ [11, 12, 13, 14, 15, 16, 17, 18, 19, 20, 21, 22, 23, 24, 25, 26, 27, 28, 29, 30, 31, 32, 33, 34, 35, 36, 37, 38, 39, 40, 41, 42, 43] rfl (by decide +kernel)
set_option maxRecDepth 20000 in
theorem gX12_told_X12_moodBy : GoodIn wsX12_told (wsV RX12 333 RX12 yX12_moodBy wsX12_moodBy) := goodIn_app (goodIn_of _ (by decide +kernel)) ggX12_told_X12_moodBy
theorem dX12_told_0 : decode cX12_told 0 = .ok (.iload_n 1, 1) := by decide +kernel
theorem dX12_told_1 : decode cX12_told 1 = .ok (.invokestatic 93, 3) := by decide +kernel
theorem dX12_told_4 : decode cX12_told 4 = .ok (.ifCond .eq 22, 3) := by decide +kernel
theorem dX12_told_7 : decode cX12_told 7 = .ok (.iload_n 2, 1) := by decide +kernel
theorem dX12_told_8 : decode cX12_told 8 = .ok (.iconst 0, 1) := by decide +kernel
theorem dX12_told_9 : decode cX12_told 9 = .ok (.bipush 9, 2) := by decide +kernel
theorem dX12_told_11 : decode cX12_told 11 = .ok (.invokestatic 68, 3) := by decide +kernel
theorem dX12_told_14 : decode cX12_told 14 = .ok (.ifCond .eq 12, 3) := by decide +kernel
theorem dX12_told_17 : decode cX12_told 17 = .ok (.aload_n 0, 1) := by decide +kernel
theorem dX12_told_18 : decode cX12_told 18 = .ok (.iload_n 1, 1) := by decide +kernel
theorem dX12_told_19 : decode cX12_told 19 = .ok (.iload_n 2, 1) := by decide +kernel
theorem dX12_told_20 : decode cX12_told 20 = .ok (.invokevirtual 333, 3) := by decide +kernel
theorem dX12_told_23 : decode cX12_told 23 = .ok (.goto 4, 3) := by decide +kernel
theorem dX12_told_26 : decode cX12_told 26 = .ok (.iconst (-1), 1) := by decide +kernel
theorem dX12_told_27 : decode cX12_told 27 = .ok (.ireturn, 1) := by decide +kernel
theorem dX12_beginAt_0 : decode cX12_beginAt 0 = .ok (.iconst 0, 1) := by decide +kernel
theorem dX12_beginAt_1 : decode cX12_beginAt 1 = .ok (.istore_n 3, 1) := by decide +kernel
theorem dX12_beginAt_2 : decode cX12_beginAt 2 = .ok (.iload_n 3, 1) := by decide +kernel
theorem dX12_beginAt_3 : decode cX12_beginAt 3 = .ok (.iload_n 2, 1) := by decide +kernel
theorem dX12_beginAt_4 : decode cX12_beginAt 4 = .ok (.if_icmp .ge 16, 3) := by decide +kernel
theorem dX12_beginAt_7 : decode cX12_beginAt 7 = .ok (.aload_n 0, 1) := by decide +kernel
theorem dX12_beginAt_8 : decode cX12_beginAt 8 = .ok (.getfield 55, 3) := by decide +kernel
theorem dX12_beginAt_11 : decode cX12_beginAt 11 = .ok (.iload_n 3, 1) := by decide +kernel
theorem dX12_beginAt_12 : decode cX12_beginAt 12 = .ok (.iconst (-1), 1) := by decide +kernel
theorem dX12_beginAt_13 : decode cX12_beginAt 13 = .ok (.iastore, 1) := by decide +kernel
theorem dX12_beginAt_14 : decode cX12_beginAt 14 = .ok (.iinc 3 1, 3) := by decide +kernel
theorem dX12_beginAt_17 : decode cX12_beginAt 17 = .ok (.goto (-15), 3) := by decide +kernel
theorem dX12_beginAt_20 : decode cX12_beginAt 20 = .ok (.aload_n 0, 1) := by decide +kernel
theorem dX12_beginAt_21 : decode cX12_beginAt 21 = .ok (.getfield 46, 3) := by decide +kernel
theorem dX12_beginAt_24 : decode cX12_beginAt 24 = .ok (.iconst 0, 1) := by decide +kernel
theorem dX12_beginAt_25 : decode cX12_beginAt 25 = .ok (.iload_n 1, 1) := by decide +kernel
theorem dX12_beginAt_26 : decode cX12_beginAt 26 = .ok (.iastore, 1) := by decide +kernel
theorem dX12_beginAt_27 : decode cX12_beginAt 27 = .ok (.aload_n 0, 1) := by decide +kernel
theorem dX12_beginAt_28 : decode cX12_beginAt 28 = .ok (.getfield 55, 3) := by decide +kernel
theorem dX12_beginAt_31 : decode cX12_beginAt 31 = .ok (.iload_n 1, 1) := by decide +kernel
theorem dX12_beginAt_32 : decode cX12_beginAt 32 = .ok (.iconst 0, 1) := by decide +kernel
theorem dX12_beginAt_33 : decode cX12_beginAt 33 = .ok (.iastore, 1) := by decide +kernel
theorem dX12_beginAt_34 : decode cX12_beginAt 34 = .ok (.aload_n 0, 1) := by decide +kernel
theorem dX12_beginAt_35 : decode cX12_beginAt 35 = .ok (.getfield 49, 3) := by decide +kernel
theorem dX12_beginAt_38 : decode cX12_beginAt 38 = .ok (.iload_n 1, 1) := by decide +kernel
theorem dX12_beginAt_39 : decode cX12_beginAt 39 = .ok (.iconst (-1), 1) := by decide +kernel
theorem dX12_beginAt_40 : decode cX12_beginAt 40 = .ok (.iastore, 1) := by decide +kernel
theorem dX12_beginAt_41 : decode cX12_beginAt 41 = .ok (.aload_n 0, 1) := by decide +kernel
theorem dX12_beginAt_42 : decode cX12_beginAt 42 = .ok (.iconst 1, 1) := by decide +kernel
theorem dX12_beginAt_43 : decode cX12_beginAt 43 = .ok (.putfield 417, 3) := by decide +kernel
theorem dX12_beginAt_46 : decode cX12_beginAt 46 = .ok (.return_, 1) := by decide +kernel
theorem dX12_comeTo_0 : decode cX12_comeTo 0 = .ok (.aload_n 0, 1) := by decide +kernel
theorem dX12_comeTo_1 : decode cX12_comeTo 1 = .ok (.getfield 55, 3) := by decide +kernel
theorem dX12_comeTo_4 : decode cX12_comeTo 4 = .ok (.iload_n 1, 1) := by decide +kernel
theorem dX12_comeTo_5 : decode cX12_comeTo 5 = .ok (.iaload, 1) := by decide +kernel
theorem dX12_comeTo_6 : decode cX12_comeTo 6 = .ok (.iconst (-1), 1) := by decide +kernel
theorem dX12_comeTo_7 : decode cX12_comeTo 7 = .ok (.if_icmp .eq 4, 3) := by decide +kernel
theorem dX12_comeTo_10 : decode cX12_comeTo 10 = .ok (.return_, 1) := by decide +kernel
theorem dX12_comeTo_11 : decode cX12_comeTo 11 = .ok (.aload_n 0, 1) := by decide +kernel
theorem dX12_comeTo_12 : decode cX12_comeTo 12 = .ok (.getfield 55, 3) := by decide +kernel
theorem dX12_comeTo_15 : decode cX12_comeTo 15 = .ok (.iload_n 1, 1) := by decide +kernel
theorem dX12_comeTo_16 : decode cX12_comeTo 16 = .ok (.aload_n 0, 1) := by decide +kernel
theorem dX12_comeTo_17 : decode cX12_comeTo 17 = .ok (.getfield 55, 3) := by decide +kernel
theorem dX12_comeTo_20 : decode cX12_comeTo 20 = .ok (.iload_n 2, 1) := by decide +kernel
theorem dX12_comeTo_21 : decode cX12_comeTo 21 = .ok (.iaload, 1) := by decide +kernel
theorem dX12_comeTo_22 : decode cX12_comeTo 22 = .ok (.iconst 1, 1) := by decide +kernel
theorem dX12_comeTo_23 : decode cX12_comeTo 23 = .ok (.iadd, 1) := by decide +kernel
theorem dX12_comeTo_24 : decode cX12_comeTo 24 = .ok (.iastore, 1) := by decide +kernel
theorem dX12_comeTo_25 : decode cX12_comeTo 25 = .ok (.aload_n 0, 1) := by decide +kernel
theorem dX12_comeTo_26 : decode cX12_comeTo 26 = .ok (.getfield 49, 3) := by decide +kernel
theorem dX12_comeTo_29 : decode cX12_comeTo 29 = .ok (.iload_n 1, 1) := by decide +kernel
theorem dX12_comeTo_30 : decode cX12_comeTo 30 = .ok (.iload_n 2, 1) := by decide +kernel
theorem dX12_comeTo_31 : decode cX12_comeTo 31 = .ok (.iastore, 1) := by decide +kernel
theorem dX12_comeTo_32 : decode cX12_comeTo 32 = .ok (.aload_n 0, 1) := by decide +kernel
theorem dX12_comeTo_33 : decode cX12_comeTo 33 = .ok (.getfield 52, 3) := by decide +kernel
theorem dX12_comeTo_36 : decode cX12_comeTo 36 = .ok (.iload_n 1, 1) := by decide +kernel
theorem dX12_comeTo_37 : decode cX12_comeTo 37 = .ok (.iload_n 3, 1) := by decide +kernel
theorem dX12_comeTo_38 : decode cX12_comeTo 38 = .ok (.iastore, 1) := by decide +kernel
theorem dX12_comeTo_39 : decode cX12_comeTo 39 = .ok (.aload_n 0, 1) := by decide +kernel
theorem dX12_comeTo_40 : decode cX12_comeTo 40 = .ok (.getfield 46, 3) := by decide +kernel
theorem dX12_comeTo_43 : decode cX12_comeTo 43 = .ok (.aload_n 0, 1) := by decide +kernel
theorem dX12_comeTo_44 : decode cX12_comeTo 44 = .ok (.getfield 417, 3) := by decide +kernel
theorem dX12_comeTo_47 : decode cX12_comeTo 47 = .ok (.iload_n 1, 1) := by decide +kernel
theorem dX12_comeTo_48 : decode cX12_comeTo 48 = .ok (.iastore, 1) := by decide +kernel
theorem dX12_comeTo_49 : decode cX12_comeTo 49 = .ok (.aload_n 0, 1) := by decide +kernel
theorem dX12_comeTo_50 : decode cX12_comeTo 50 = .ok (.dup, 1) := by decide +kernel
theorem dX12_comeTo_51 : decode cX12_comeTo 51 = .ok (.getfield 417, 3) := by decide +kernel
theorem dX12_comeTo_54 : decode cX12_comeTo 54 = .ok (.iconst 1, 1) := by decide +kernel
theorem dX12_comeTo_55 : decode cX12_comeTo 55 = .ok (.iadd, 1) := by decide +kernel
theorem dX12_comeTo_56 : decode cX12_comeTo 56 = .ok (.putfield 417, 3) := by decide +kernel
theorem dX12_comeTo_59 : decode cX12_comeTo 59 = .ok (.return_, 1) := by decide +kernel
set_option maxRecDepth 20000 in
theorem ggX12_wayTo_X12_isIn : GoodIn wsX12_wayTo wsX12_isIn := goodIn_r _ [7] rfl (by decide +kernel)
set_option maxRecDepth 20000 in
theorem gX12_wayTo_X12_isIn : GoodIn wsX12_wayTo (va_wsS RX12 68 yX12_isIn wsX12_isIn) := goodIn_app (goodIn_of _ (by decide +kernel)) ggX12_wayTo_X12_isIn
theorem dX12_wayTo_0 : decode cX12_wayTo 0 = .ok (.iload_n 1, 1) := by decide +kernel
theorem dX12_wayTo_1 : decode cX12_wayTo 1 = .ok (.iconst (-1), 1) := by decide +kernel
theorem dX12_wayTo_2 : decode cX12_wayTo 2 = .ok (.if_icmp .eq 19, 3) := by decide +kernel
theorem dX12_wayTo_5 : decode cX12_wayTo 5 = .ok (.iload_n 2, 1) := by decide +kernel
theorem dX12_wayTo_6 : decode cX12_wayTo 6 = .ok (.iconst (-1), 1) := by decide +kernel
theorem dX12_wayTo_7 : decode cX12_wayTo 7 = .ok (.aload_n 0, 1) := by decide +kernel
theorem dX12_wayTo_8 : decode cX12_wayTo 8 = .ok (.getfield 55, 3) := by decide +kernel
theorem dX12_wayTo_11 : decode cX12_wayTo 11 = .ok (.iload_n 1, 1) := by decide +kernel
theorem dX12_wayTo_12 : decode cX12_wayTo 12 = .ok (.iaload, 1) := by decide +kernel
theorem dX12_wayTo_13 : decode cX12_wayTo 13 = .ok (.iconst 1, 1) := by decide +kernel
theorem dX12_wayTo_14 : decode cX12_wayTo 14 = .ok (.isub, 1) := by decide +kernel
theorem dX12_wayTo_15 : decode cX12_wayTo 15 = .ok (.invokestatic 68, 3) := by decide +kernel
theorem dX12_wayTo_18 : decode cX12_wayTo 18 = .ok (.ifCond .ne 6, 3) := by decide +kernel
theorem dX12_wayTo_21 : decode cX12_wayTo 21 = .ok (.bipush (-2), 2) := by decide +kernel
theorem dX12_wayTo_23 : decode cX12_wayTo 23 = .ok (.ireturn, 1) := by decide +kernel
theorem dX12_wayTo_24 : decode cX12_wayTo 24 = .ok (.iload_n 2, 1) := by decide +kernel
theorem dX12_wayTo_25 : decode cX12_wayTo 25 = .ok (.iconst (-1), 1) := by decide +kernel
theorem dX12_wayTo_26 : decode cX12_wayTo 26 = .ok (.if_icmp .ne 10, 3) := by decide +kernel
theorem dX12_wayTo_29 : decode cX12_wayTo 29 = .ok (.aload_n 0, 1) := by decide +kernel
theorem dX12_wayTo_30 : decode cX12_wayTo 30 = .ok (.getfield 55, 3) := by decide +kernel
theorem dX12_wayTo_33 : decode cX12_wayTo 33 = .ok (.iload_n 1, 1) := by decide +kernel
theorem dX12_wayTo_34 : decode cX12_wayTo 34 = .ok (.iaload, 1) := by decide +kernel
theorem dX12_wayTo_35 : decode cX12_wayTo 35 = .ok (.ireturn, 1) := by decide +kernel
theorem dX12_wayTo_36 : decode cX12_wayTo 36 = .ok (.iload_n 1, 1) := by decide +kernel
theorem dX12_wayTo_37 : decode cX12_wayTo 37 = .ok (.istore_n 3, 1) := by decide +kernel
theorem dX12_wayTo_38 : decode cX12_wayTo 38 = .ok (.aload_n 0, 1) := by decide +kernel
theorem dX12_wayTo_39 : decode cX12_wayTo 39 = .ok (.getfield 55, 3) := by decide +kernel
theorem dX12_wayTo_42 : decode cX12_wayTo 42 = .ok (.iload_n 3, 1) := by decide +kernel
theorem dX12_wayTo_43 : decode cX12_wayTo 43 = .ok (.iaload, 1) := by decide +kernel
theorem dX12_wayTo_44 : decode cX12_wayTo 44 = .ok (.iload_n 2, 1) := by decide +kernel
theorem dX12_wayTo_45 : decode cX12_wayTo 45 = .ok (.iconst 1, 1) := by decide +kernel
theorem dX12_wayTo_46 : decode cX12_wayTo 46 = .ok (.iadd, 1) := by decide +kernel
theorem dX12_wayTo_47 : decode cX12_wayTo 47 = .ok (.if_icmp .le 13, 3) := by decide +kernel
theorem dX12_wayTo_50 : decode cX12_wayTo 50 = .ok (.aload_n 0, 1) := by decide +kernel
theorem dX12_wayTo_51 : decode cX12_wayTo 51 = .ok (.getfield 49, 3) := by decide +kernel
theorem dX12_wayTo_54 : decode cX12_wayTo 54 = .ok (.iload_n 3, 1) := by decide +kernel
theorem dX12_wayTo_55 : decode cX12_wayTo 55 = .ok (.iaload, 1) := by decide +kernel
theorem dX12_wayTo_56 : decode cX12_wayTo 56 = .ok (.istore_n 3, 1) := by decide +kernel
theorem dX12_wayTo_57 : decode cX12_wayTo 57 = .ok (.goto (-19), 3) := by decide +kernel
theorem dX12_wayTo_60 : decode cX12_wayTo 60 = .ok (.aload_n 0, 1) := by decide +kernel
theorem dX12_wayTo_61 : decode cX12_wayTo 61 = .ok (.getfield 52, 3) := by decide +kernel
theorem dX12_wayTo_64 : decode cX12_wayTo 64 = .ok (.iload_n 3, 1) := by decide +kernel
theorem dX12_wayTo_65 : decode cX12_wayTo 65 = .ok (.iaload, 1) := by decide +kernel
theorem dX12_wayTo_66 : decode cX12_wayTo 66 = .ok (.ireturn, 1) := by decide +kernel
set_option maxRecDepth 20000 in
theorem ggX12_order_X12_isHouse : GoodIn wsX12_order wsX12_isHouse := goodIn_r _ [7, 8, 9, 10, 6, 11, 35, 36, 37, 38, 39, 40, 41, 42, 43, 44, 45, 46, 47, 48, 49, 50, 51, 52, 53, 54, 55, 56, 57, 58, 59, 60, 61, 62, 63, 64, 65] rfl (by decide +kernel)
set_option maxRecDepth 20000 in
theorem gX12_order_X12_isHouse : GoodIn wsX12_order (wsV RX12 357 RX12 yX12_isHouse wsX12_isHouse) := goodIn_app (goodIn_of _ (by decide +kernel)) ggX12_order_X12_isHouse
set_option maxRecDepth 20000 in
theorem ggX12_order_X12_get : GoodIn wsX12_order wsX12_get := goodIn_r _ [15, 8, 35, 36, 37, 38, 39, 40, 41, 42, 43, 44, 45, 46, 47, 48, 49, 50, 51, 52, 53, 54, 55, 56, 57, 58, 59, 60, 61, 62, 63, 64, 65] rfl (by decide +kernel)
set_option maxRecDepth 20000 in
theorem gX12_order_X12_get : GoodIn wsX12_order (wsV RX12 84 RX12 yX12_get wsX12_get) := goodIn_app (goodIn_of _ (by decide +kernel)) ggX12_order_X12_get
set_option maxRecDepth 20000 in
theorem ggX12_order_X12_beginAt : GoodIn wsX12_order wsX12_beginAt := goodIn_r _ [19, 20, 2, 21, 1, 35, 36, 37, 38, 39, 40, 41, 42, 43, 44, 45, 46, 47, 48, 49, 50, 51, 52, 53, 54, 55, 56, 57, 58, 59, 60, 61, 62, 63, 64, 65] rfl (by decide +kernel)
set_option maxRecDepth 20000 in
theorem gX12_order_X12_beginAt : GoodIn wsX12_order (wsV RX12 420 RX12 yX12_beginAt wsX12_beginAt) := goodIn_app (goodIn_of _ (by decide +kernel)) ggX12_order_X12_beginAt
set_option maxRecDepth 20000 in
theorem ggX12_order_X12_wayTo : GoodIn wsX12_order wsX12_wayTo := goodIn_r _ [25, 20, 21, 26, 9, 10, 6, 11, 35, 36, 37, 38, 39, 40, 41, 42, 43, 44, 45, 46, 47, 48, 49, 50, 51, 52, 53, 54, 55, 56, 57, 58, 59, 60, 61, 62, 63, 64, 65] rfl (by decide +kernel)
set_option maxRecDepth 20000 in
theorem gX12_order_X12_wayTo : GoodIn wsX12_order (wsV RX12 423 RX12 yX12_wayTo wsX12_wayTo) := goodIn_app (goodIn_of _ (by decide +kernel)) ggX12_order_X12_wayTo
set_option maxRecDepth 20000 in
theorem ggX12_order_X12_moodBy : GoodIn wsX12_order wsX12_moodBy := goodIn_r _ [30, 8, 35, 36, 37, 38, 39, 40, 41, 42, 43, 44, 45, 46, 47, 48, 49, 50, 51, 52, 53, 54, 55, 56, 57, 58, 59, 60, 61, 62, 63, 64, 65] rfl (by decide +kernel)
set_option maxRecDepth 20000 in
theorem gX12_order_X12_moodBy : GoodIn wsX12_order (wsV RX12 333 RX12 yX12_moodBy wsX12_moodBy) := goodIn_app (goodIn_of _ (by decide +kernel)) ggX12_order_X12_moodBy
set_option maxRecDepth 20000 in
theorem ggX12_order_X12_comeTo : GoodIn wsX12_order wsX12_comeTo := goodIn_r _ [34, 20, 21, 26, 2, 1, 35, 36, 37, 38, 39, 40, 41, 42, 43, 44, 45, 46, 47, 48, 49, 50, 51, 52, 53, 54, 55, 56, 57, 58, 59, 60, 61, 62, 63, 64, 65] rfl (by decide +kernel)
set_option maxRecDepth 20000 in
theorem gX12_order_X12_comeTo : GoodIn wsX12_order (wsV RX12 426 RX12 yX12_comeTo wsX12_comeTo) := goodIn_app (goodIn_of _ (by decide +kernel)) ggX12_order_X12_comeTo
theorem dX12_order_0 : decode cX12_order 0 = .ok (.aload_n 0, 1) := by decide +kernel
theorem dX12_order_1 : decode cX12_order 1 = .ok (.iload_n 1, 1) := by decide +kernel
theorem dX12_order_2 : decode cX12_order 2 = .ok (.invokevirtual 357, 3) := by decide +kernel
theorem dX12_order_5 : decode cX12_order 5 = .ok (.ifCond .ne 6, 3) := by decide +kernel
theorem dX12_order_8 : decode cX12_order 8 = .ok (.bipush (-2), 2) := by decide +kernel
theorem dX12_order_10 : decode cX12_order 10 = .ok (.ireturn, 1) := by decide +kernel
theorem dX12_order_11 : decode cX12_order 11 = .ok (.aload_n 0, 1) := by decide +kernel
theorem dX12_order_12 : decode cX12_order 12 = .ok (.aload_n 0, 1) := by decide +kernel
theorem dX12_order_13 : decode cX12_order 13 = .ok (.iload_n 1, 1) := by decide +kernel
theorem dX12_order_14 : decode cX12_order 14 = .ok (.iconst 1, 1) := by decide +kernel
theorem dX12_order_15 : decode cX12_order 15 = .ok (.invokevirtual 84, 3) := by decide +kernel
theorem dX12_order_18 : decode cX12_order 18 = .ok (.bipush 10, 2) := by decide +kernel
theorem dX12_order_20 : decode cX12_order 20 = .ok (.invokevirtual 420, 3) := by decide +kernel
theorem dX12_order_23 : decode cX12_order 23 = .ok (.iconst 0, 1) := by decide +kernel
theorem dX12_order_24 : decode cX12_order 24 = .ok (.istore_n 3, 1) := by decide +kernel
theorem dX12_order_25 : decode cX12_order 25 = .ok (.iload_n 3, 1) := by decide +kernel
theorem dX12_order_26 : decode cX12_order 26 = .ok (.aload_n 0, 1) := by decide +kernel
theorem dX12_order_27 : decode cX12_order 27 = .ok (.getfield 417, 3) := by decide +kernel
theorem dX12_order_30 : decode cX12_order 30 = .ok (.if_icmp .ge 67, 3) := by decide +kernel
theorem dX12_order_33 : decode cX12_order 33 = .ok (.aload_n 0, 1) := by decide +kernel
theorem dX12_order_34 : decode cX12_order 34 = .ok (.getfield 46, 3) := by decide +kernel
theorem dX12_order_37 : decode cX12_order 37 = .ok (.iload_n 3, 1) := by decide +kernel
theorem dX12_order_38 : decode cX12_order 38 = .ok (.iaload, 1) := by decide +kernel
theorem dX12_order_39 : decode cX12_order 39 = .ok (.bipush 9, 2) := by decide +kernel
theorem dX12_order_41 : decode cX12_order 41 = .ok (.if_icmp .ne 11, 3) := by decide +kernel
theorem dX12_order_44 : decode cX12_order 44 = .ok (.aload_n 0, 1) := by decide +kernel
theorem dX12_order_45 : decode cX12_order 45 = .ok (.bipush 9, 2) := by decide +kernel
theorem dX12_order_47 : decode cX12_order 47 = .ok (.iload_n 2, 1) := by decide +kernel
theorem dX12_order_48 : decode cX12_order 48 = .ok (.invokevirtual 423, 3) := by decide +kernel
theorem dX12_order_51 : decode cX12_order 51 = .ok (.ireturn, 1) := by decide +kernel
theorem dX12_order_52 : decode cX12_order 52 = .ok (.iconst 0, 1) := by decide +kernel
theorem dX12_order_53 : decode cX12_order 53 = .ok (.istore 4, 2) := by decide +kernel
theorem dX12_order_55 : decode cX12_order 55 = .ok (.iload 4, 2) := by decide +kernel
theorem dX12_order_57 : decode cX12_order 57 = .ok (.iconst 5, 1) := by decide +kernel
theorem dX12_order_58 : decode cX12_order 58 = .ok (.if_icmp .ge 33, 3) := by decide +kernel
theorem dX12_order_61 : decode cX12_order 61 = .ok (.aload_n 0, 1) := by decide +kernel
theorem dX12_order_62 : decode cX12_order 62 = .ok (.aload_n 0, 1) := by decide +kernel
theorem dX12_order_63 : decode cX12_order 63 = .ok (.iload 4, 2) := by decide +kernel
theorem dX12_order_65 : decode cX12_order 65 = .ok (.aload_n 0, 1) := by decide +kernel
theorem dX12_order_66 : decode cX12_order 66 = .ok (.getfield 46, 3) := by decide +kernel
theorem dX12_order_69 : decode cX12_order 69 = .ok (.iload_n 3, 1) := by decide +kernel
theorem dX12_order_70 : decode cX12_order 70 = .ok (.iaload, 1) := by decide +kernel
theorem dX12_order_71 : decode cX12_order 71 = .ok (.invokevirtual 333, 3) := by decide +kernel
theorem dX12_order_74 : decode cX12_order 74 = .ok (.aload_n 0, 1) := by decide +kernel
theorem dX12_order_75 : decode cX12_order 75 = .ok (.getfield 46, 3) := by decide +kernel
theorem dX12_order_78 : decode cX12_order 78 = .ok (.iload_n 3, 1) := by decide +kernel
theorem dX12_order_79 : decode cX12_order 79 = .ok (.iaload, 1) := by decide +kernel
theorem dX12_order_80 : decode cX12_order 80 = .ok (.iload 4, 2) := by decide +kernel
theorem dX12_order_82 : decode cX12_order 82 = .ok (.invokevirtual 426, 3) := by decide +kernel
theorem dX12_order_85 : decode cX12_order 85 = .ok (.iinc 4 1, 3) := by decide +kernel
theorem dX12_order_88 : decode cX12_order 88 = .ok (.goto (-33), 3) := by decide +kernel
theorem dX12_order_91 : decode cX12_order 91 = .ok (.iinc 3 1, 3) := by decide +kernel
theorem dX12_order_94 : decode cX12_order 94 = .ok (.goto (-69), 3) := by decide +kernel
theorem dX12_order_97 : decode cX12_order 97 = .ok (.bipush (-2), 2) := by decide +kernel
theorem dX12_order_99 : decode cX12_order 99 = .ok (.ireturn, 1) := by decide +kernel
set_option maxRecDepth 20000 in
theorem ggX12_moodsBy_X12_has : GoodIn wsX12_moodsBy wsX12_has := goodIn_r _ [4] rfl (by decide +kernel)
set_option maxRecDepth 20000 in
theorem gX12_moodsBy_X12_has : GoodIn wsX12_moodsBy (va_wsS RX12 262 yX12_has wsX12_has) := goodIn_app (goodIn_of _ (by decide +kernel)) ggX12_moodsBy_X12_has
set_option maxRecDepth 20000 in
theorem ggX12_moodsBy_X12_moodBy : GoodIn wsX12_moodsBy wsX12_moodBy := goodIn_r _ [8, 9, 10, 11, 12, 13, 14, 15, 16, 17, 18, 19, 20, 21, 22, 23, 24, 25, 26, 27, 28, 29, 30, 31, 32, 33, 34, 35, 36, 37, 38, 39, 40] rfl (by decide +kernel)
set_option maxRecDepth 20000 in
theorem gX12_moodsBy_X12_moodBy : GoodIn wsX12_moodsBy (wsV RX12 333 RX12 yX12_moodBy wsX12_moodBy) := goodIn_app (goodIn_of _ (by decide +kernel)) ggX12_moodsBy_X12_moodBy
theorem dX12_moodsBy_0 : decode cX12_moodsBy 0 = .ok (.iconst 0, 1) := by decide +kernel
theorem dX12_moodsBy_1 : decode cX12_moodsBy 1 = .ok (.istore_n 3, 1) := by decide +kernel
theorem dX12_moodsBy_2 : decode cX12_moodsBy 2 = .ok (.iconst 0, 1) := by decide +kernel
theorem dX12_moodsBy_3 : decode cX12_moodsBy 3 = .ok (.istore 4, 2) := by decide +kernel
theorem dX12_moodsBy_5 : decode cX12_moodsBy 5 = .ok (.iload 4, 2) := by decide +kernel
theorem dX12_moodsBy_7 : decode cX12_moodsBy 7 = .ok (.bipush 10, 2) := by decide +kernel
theorem dX12_moodsBy_9 : decode cX12_moodsBy 9 = .ok (.if_icmp .ge 34, 3) := by decide +kernel
theorem dX12_moodsBy_12 : decode cX12_moodsBy 12 = .ok (.iload_n 3, 1) := by decide +kernel
theorem dX12_moodsBy_13 : decode cX12_moodsBy 13 = .ok (.iload_n 2, 1) := by decide +kernel
theorem dX12_moodsBy_14 : decode cX12_moodsBy 14 = .ok (.iload 4, 2) := by decide +kernel
theorem dX12_moodsBy_16 : decode cX12_moodsBy 16 = .ok (.invokestatic 262, 3) := by decide +kernel
theorem dX12_moodsBy_19 : decode cX12_moodsBy 19 = .ok (.ifCond .eq 15, 3) := by decide +kernel
theorem dX12_moodsBy_22 : decode cX12_moodsBy 22 = .ok (.iconst 1, 1) := by decide +kernel
theorem dX12_moodsBy_23 : decode cX12_moodsBy 23 = .ok (.aload_n 0, 1) := by decide +kernel
theorem dX12_moodsBy_24 : decode cX12_moodsBy 24 = .ok (.iload_n 1, 1) := by decide +kernel
theorem dX12_moodsBy_25 : decode cX12_moodsBy 25 = .ok (.iload 4, 2) := by decide +kernel
theorem dX12_moodsBy_27 : decode cX12_moodsBy 27 = .ok (.invokevirtual 333, 3) := by decide +kernel
theorem dX12_moodsBy_30 : decode cX12_moodsBy 30 = .ok (.ishl, 1) := by decide +kernel
theorem dX12_moodsBy_31 : decode cX12_moodsBy 31 = .ok (.goto 4, 3) := by decide +kernel
theorem dX12_moodsBy_34 : decode cX12_moodsBy 34 = .ok (.iconst 0, 1) := by decide +kernel
theorem dX12_moodsBy_35 : decode cX12_moodsBy 35 = .ok (.ior, 1) := by decide +kernel
theorem dX12_moodsBy_36 : decode cX12_moodsBy 36 = .ok (.istore_n 3, 1) := by decide +kernel
theorem dX12_moodsBy_37 : decode cX12_moodsBy 37 = .ok (.iinc 4 1, 3) := by decide +kernel
theorem dX12_moodsBy_40 : decode cX12_moodsBy 40 = .ok (.goto (-35), 3) := by decide +kernel
theorem dX12_moodsBy_43 : decode cX12_moodsBy 43 = .ok (.iload_n 3, 1) := by decide +kernel
theorem dX12_moodsBy_44 : decode cX12_moodsBy 44 = .ok (.ireturn, 1) := by decide +kernel
set_option maxRecDepth 20000 in
theorem ggX12_all_X12_beginAt : GoodIn wsX12_all wsX12_beginAt := goodIn_r _ [8, 2, 3, 9, 1, 37, 38, 39, 40, 41, 42, 43, 44, 45, 46, 47, 48, 49, 50, 51, 52, 53, 54, 55, 56, 57, 58, 59, 60, 61, 62, 63, 64, 65, 66, 67] rfl (by decide +kernel)
set_option maxRecDepth 20000 in
theorem gX12_all_X12_beginAt : GoodIn wsX12_all (wsV RX12 420 RX12 yX12_beginAt wsX12_beginAt) := goodIn_app (goodIn_of _ (by decide +kernel)) ggX12_all_X12_beginAt
set_option maxRecDepth 20000 in
theorem ggX12_all_X12_bits : GoodIn wsX12_all wsX12_bits := goodIn_r _ [12] rfl (by decide +kernel)
set_option maxRecDepth 20000 in
theorem gX12_all_X12_bits : GoodIn wsX12_all (va_wsS RX12 321 yX12_bits wsX12_bits) := goodIn_app (goodIn_of _ (by decide +kernel)) ggX12_all_X12_bits
set_option maxRecDepth 20000 in
theorem ggX12_all_X12_wayTo : GoodIn wsX12_all wsX12_wayTo := goodIn_r _ [16, 2, 9, 17, 18, 19, 7, 20, 37, 38, 39, 40, 41, 42, 43, 44, 45, 46, 47, 48, 49, 50, 51, 52, 53, 54, 55, 56, 57, 58, 59, 60, 61, 62, 63, 64, 65, 66, 67] rfl (by decide +kernel)
set_option maxRecDepth 20000 in
theorem gX12_all_X12_wayTo : GoodIn wsX12_all (wsV RX12 423 RX12 yX12_wayTo wsX12_wayTo) := goodIn_app (goodIn_of _ (by decide +kernel)) ggX12_all_X12_wayTo
set_option maxRecDepth 20000 in
theorem ggX12_all_X12_moodsBy : GoodIn wsX12_all wsX12_moodsBy := goodIn_r _ [24, 25, 26, 7, 27, 28, 29, 30, 31, 32, 37, 38, 39, 40, 41, 42, 43, 44, 45, 46, 47, 48, 49, 50, 51, 52, 53, 54, 55, 56, 57, 58, 59, 60, 61, 62, 63, 64, 65, 66, 67] rfl (by decide +kernel)
set_option maxRecDepth 20000 in
theorem gX12_all_X12_moodsBy : GoodIn wsX12_all (wsV RX12 429 RX12 yX12_moodsBy wsX12_moodsBy) := goodIn_app (goodIn_of _ (by decide +kernel)) ggX12_all_X12_moodsBy
set_option maxRecDepth 20000 in
theorem ggX12_all_X12_comeTo : GoodIn wsX12_all wsX12_comeTo := goodIn_r _ [36, 2, 9, 17, 3, 1, 37, 38, 39, 40, 41, 42, 43, 44, 45, 46, 47, 48, 49, 50, 51, 52, 53, 54, 55, 56, 57, 58, 59, 60, 61, 62, 63, 64, 65, 66, 67] rfl (by decide +kernel)
set_option maxRecDepth 20000 in
theorem gX12_all_X12_comeTo : GoodIn wsX12_all (wsV RX12 426 RX12 yX12_comeTo wsX12_comeTo) := goodIn_app (goodIn_of _ (by decide +kernel)) ggX12_all_X12_comeTo
theorem dX12_all_0 : decode cX12_all 0 = .ok (.aload_n 0, 1) := by decide +kernel
theorem dX12_all_1 : decode cX12_all 1 = .ok (.sipush 1023, 3) := by decide +kernel
theorem dX12_all_4 : decode cX12_all 4 = .ok (.sipush 1024, 3) := by decide +kernel
theorem dX12_all_7 : decode cX12_all 7 = .ok (.invokevirtual 420, 3) := by decide +kernel
theorem dX12_all_10 : decode cX12_all 10 = .ok (.iconst 0, 1) := by decide +kernel
theorem dX12_all_11 : decode cX12_all 11 = .ok (.istore_n 2, 1) := by decide +kernel
theorem dX12_all_12 : decode cX12_all 12 = .ok (.iload_n 2, 1) := by decide +kernel
theorem dX12_all_13 : decode cX12_all 13 = .ok (.aload_n 0, 1) := by decide +kernel
theorem dX12_all_14 : decode cX12_all 14 = .ok (.getfield 417, 3) := by decide +kernel
theorem dX12_all_17 : decode cX12_all 17 = .ok (.if_icmp .ge 85, 3) := by decide +kernel
theorem dX12_all_20 : decode cX12_all 20 = .ok (.aload_n 0, 1) := by decide +kernel
theorem dX12_all_21 : decode cX12_all 21 = .ok (.getfield 55, 3) := by decide +kernel
theorem dX12_all_24 : decode cX12_all 24 = .ok (.aload_n 0, 1) := by decide +kernel
theorem dX12_all_25 : decode cX12_all 25 = .ok (.getfield 46, 3) := by decide +kernel
theorem dX12_all_28 : decode cX12_all 28 = .ok (.iload_n 2, 1) := by decide +kernel
theorem dX12_all_29 : decode cX12_all 29 = .ok (.iaload, 1) := by decide +kernel
theorem dX12_all_30 : decode cX12_all 30 = .ok (.iaload, 1) := by decide +kernel
theorem dX12_all_31 : decode cX12_all 31 = .ok (.bipush 20, 2) := by decide +kernel
theorem dX12_all_33 : decode cX12_all 33 = .ok (.if_icmp .gt 69, 3) := by decide +kernel
theorem dX12_all_36 : decode cX12_all 36 = .ok (.aload_n 0, 1) := by decide +kernel
theorem dX12_all_37 : decode cX12_all 37 = .ok (.getfield 46, 3) := by decide +kernel
theorem dX12_all_40 : decode cX12_all 40 = .ok (.iload_n 2, 1) := by decide +kernel
theorem dX12_all_41 : decode cX12_all 41 = .ok (.iaload, 1) := by decide +kernel
theorem dX12_all_42 : decode cX12_all 42 = .ok (.invokestatic 321, 3) := by decide +kernel
theorem dX12_all_45 : decode cX12_all 45 = .ok (.iconst 1, 1) := by decide +kernel
theorem dX12_all_46 : decode cX12_all 46 = .ok (.if_icmp .ne 15, 3) := by decide +kernel
theorem dX12_all_49 : decode cX12_all 49 = .ok (.aload_n 0, 1) := by decide +kernel
theorem dX12_all_50 : decode cX12_all 50 = .ok (.aload_n 0, 1) := by decide +kernel
theorem dX12_all_51 : decode cX12_all 51 = .ok (.getfield 46, 3) := by decide +kernel
theorem dX12_all_54 : decode cX12_all 54 = .ok (.iload_n 2, 1) := by decide +kernel
theorem dX12_all_55 : decode cX12_all 55 = .ok (.iaload, 1) := by decide +kernel
theorem dX12_all_56 : decode cX12_all 56 = .ok (.iload_n 1, 1) := by decide +kernel
theorem dX12_all_57 : decode cX12_all 57 = .ok (.invokevirtual 423, 3) := by decide +kernel
theorem dX12_all_60 : decode cX12_all 60 = .ok (.ireturn, 1) := by decide +kernel
theorem dX12_all_61 : decode cX12_all 61 = .ok (.iconst 0, 1) := by decide +kernel
theorem dX12_all_62 : decode cX12_all 62 = .ok (.istore_n 3, 1) := by decide +kernel
theorem dX12_all_63 : decode cX12_all 63 = .ok (.iload_n 3, 1) := by decide +kernel
theorem dX12_all_64 : decode cX12_all 64 = .ok (.iconst 5, 1) := by decide +kernel
theorem dX12_all_65 : decode cX12_all 65 = .ok (.if_icmp .ge 31, 3) := by decide +kernel
theorem dX12_all_68 : decode cX12_all 68 = .ok (.aload_n 0, 1) := by decide +kernel
theorem dX12_all_69 : decode cX12_all 69 = .ok (.aload_n 0, 1) := by decide +kernel
theorem dX12_all_70 : decode cX12_all 70 = .ok (.iload_n 3, 1) := by decide +kernel
theorem dX12_all_71 : decode cX12_all 71 = .ok (.aload_n 0, 1) := by decide +kernel
theorem dX12_all_72 : decode cX12_all 72 = .ok (.getfield 46, 3) := by decide +kernel
theorem dX12_all_75 : decode cX12_all 75 = .ok (.iload_n 2, 1) := by decide +kernel
theorem dX12_all_76 : decode cX12_all 76 = .ok (.iaload, 1) := by decide +kernel
theorem dX12_all_77 : decode cX12_all 77 = .ok (.invokevirtual 429, 3) := by decide +kernel
theorem dX12_all_80 : decode cX12_all 80 = .ok (.aload_n 0, 1) := by decide +kernel
theorem dX12_all_81 : decode cX12_all 81 = .ok (.getfield 46, 3) := by decide +kernel
theorem dX12_all_84 : decode cX12_all 84 = .ok (.iload_n 2, 1) := by decide +kernel
theorem dX12_all_85 : decode cX12_all 85 = .ok (.iaload, 1) := by decide +kernel
theorem dX12_all_86 : decode cX12_all 86 = .ok (.iload_n 3, 1) := by decide +kernel
theorem dX12_all_87 : decode cX12_all 87 = .ok (.invokevirtual 426, 3) := by decide +kernel
theorem dX12_all_90 : decode cX12_all 90 = .ok (.iinc 3 1, 3) := by decide +kernel
theorem dX12_all_93 : decode cX12_all 93 = .ok (.goto (-30), 3) := by decide +kernel
theorem dX12_all_96 : decode cX12_all 96 = .ok (.iinc 2 1, 3) := by decide +kernel
theorem dX12_all_99 : decode cX12_all 99 = .ok (.goto (-87), 3) := by decide +kernel
theorem dX12_all_102 : decode cX12_all 102 = .ok (.bipush (-2), 2) := by decide +kernel
theorem dX12_all_104 : decode cX12_all 104 = .ok (.ireturn, 1) := by decide +kernel
set_option maxRecDepth 20000 in
theorem ggX12_behindFall_X12_own : GoodIn wsX12_behindFall wsX12_own := goodIn_r _ [5, 6, 75, 76, 77, 78, 79, 80, 81, 82, 83, 84, 85, 86, 87, 88, 89, 90, 91, 92, 93, 94, 95, 96, 97, 98, 99, 100, 101, 102, 103, 104, 105] rfl (by decide +kernel)
set_option maxRecDepth 20000 in
theorem gX12_behindFall_X12_own : GoodIn wsX12_behindFall (wsV RX12 72 RX12 yX12_own wsX12_own) := goodIn_app (goodIn_of _ (by decide +kernel)) ggX12_behindFall_X12_own
set_option maxRecDepth 20000 in
theorem ggX12_behindFall_X12_put : GoodIn wsX12_behindFall wsX12_put := goodIn_r _ [10, 6, 75, 76, 77, 78, 79, 80, 81, 82, 83, 84, 85, 86, 87, 88, 89, 90, 91, 92, 93, 94, 95, 96, 97, 98, 99, 100, 101, 102, 103, 104, 105] rfl (by decide +kernel)
set_option maxRecDepth 20000 in
theorem gX12_behindFall_X12_put : GoodIn wsX12_behindFall (wsV RX12 76 RX12 yX12_put wsX12_put) := goodIn_app (goodIn_of _ (by decide +kernel)) ggX12_behindFall_X12_put
set_option maxRecDepth 20000 in
theorem ggX12_behindFall_X12_lay : GoodIn wsX12_behindFall wsX12_lay := goodIn_r _ [14, 6, 75, 76, 77, 78, 79, 80, 81, 82, 83, 84, 85, 86, 87, 88, 89, 90, 91, 92, 93, 94, 95, 96, 97, 98, 99, 100, 101, 102, 103, 104, 105] rfl (by decide +kernel)
set_option maxRecDepth 20000 in
theorem gX12_behindFall_X12_lay : GoodIn wsX12_behindFall (wsV RX12 87 RX12 yX12_lay wsX12_lay) := goodIn_app (goodIn_of _ (by decide +kernel)) ggX12_behindFall_X12_lay
set_option maxRecDepth 20000 in
theorem ggX12_behindFall_X12_comfortNow : GoodIn wsX12_behindFall wsX12_comfortNow := goodIn_r _ [18, 1, 2, 3, 4, 5, 6, 19, 20, 21, 22, 23, 24, 25, 26, 27, 28, 29, 30, 31, 32, 33, 34, 35, 36, 37, 38, 39, 40, 41, 42, 43, 44, 45, 46, 47, 48, 49, 50, 51, 52, 53, 54, 55, 56, 57, 58, 59, 60, 61, 62, 63, 64, 65, 66, 67, 68, 69, 70, 7, 8, 9, 10, 71, 72, 73, 74, 75, 76, 77, 78, 79, 80, 81, 82, 83, 84, 85, 86, 87, 88, 89, 90, 91, 92, 93, 94, 95, 96, 97, 98, 99, 100, 101, 102, 103, 104, 105] rfl (by decide +kernel)
set_option maxRecDepth 20000 in
theorem gX12_behindFall_X12_comfortNow : GoodIn wsX12_behindFall (wsV RX12 339 RX12 yX12_comfortNow wsX12_comfortNow) := goodIn_app (goodIn_of _ (by decide +kernel)) ggX12_behindFall_X12_comfortNow
set_option maxRecDepth 20000 in
theorem ggX12_behindFall_X12_get : GoodIn wsX12_behindFall wsX12_get := goodIn_r _ [22, 6, 75, 76, 77, 78, 79, 80, 81, 82, 83, 84, 85, 86, 87, 88, 89, 90, 91, 92, 93, 94, 95, 96, 97, 98, 99, 100, 101, 102, 103, 104, 105] rfl (by decide +kernel)
set_option maxRecDepth 20000 in
theorem gX12_behindFall_X12_get : GoodIn wsX12_behindFall (wsV RX12 84 RX12 yX12_get wsX12_get) := goodIn_app (goodIn_of _ (by decide +kernel)) ggX12_behindFall_X12_get
theorem dX12_behindFall_0 : decode cX12_behindFall 0 = .ok (.aload_n 0, 1) := by decide +kernel
theorem dX12_behindFall_1 : decode cX12_behindFall 1 = .ok (.iload_n 1, 1) := by decide +kernel
theorem dX12_behindFall_2 : decode cX12_behindFall 2 = .ok (.iconst 1, 1) := by decide +kernel
theorem dX12_behindFall_3 : decode cX12_behindFall 3 = .ok (.invokevirtual 72, 3) := by decide +kernel
theorem dX12_behindFall_6 : decode cX12_behindFall 6 = .ok (.istore 4, 2) := by decide +kernel
theorem dX12_behindFall_8 : decode cX12_behindFall 8 = .ok (.aload_n 0, 1) := by decide +kernel
theorem dX12_behindFall_9 : decode cX12_behindFall 9 = .ok (.iload 4, 2) := by decide +kernel
theorem dX12_behindFall_11 : decode cX12_behindFall 11 = .ok (.iconst 0, 1) := by decide +kernel
theorem dX12_behindFall_12 : decode cX12_behindFall 12 = .ok (.iload_n 2, 1) := by decide +kernel
theorem dX12_behindFall_13 : decode cX12_behindFall 13 = .ok (.bipush 100, 2) := by decide +kernel
theorem dX12_behindFall_15 : decode cX12_behindFall 15 = .ok (.idiv, 1) := by decide +kernel
theorem dX12_behindFall_16 : decode cX12_behindFall 16 = .ok (.invokevirtual 76, 3) := by decide +kernel
theorem dX12_behindFall_19 : decode cX12_behindFall 19 = .ok (.aload_n 0, 1) := by decide +kernel
theorem dX12_behindFall_20 : decode cX12_behindFall 20 = .ok (.iload 4, 2) := by decide +kernel
theorem dX12_behindFall_22 : decode cX12_behindFall 22 = .ok (.iconst 1, 1) := by decide +kernel
theorem dX12_behindFall_23 : decode cX12_behindFall 23 = .ok (.iload_n 2, 1) := by decide +kernel
theorem dX12_behindFall_24 : decode cX12_behindFall 24 = .ok (.bipush 10, 2) := by decide +kernel
theorem dX12_behindFall_26 : decode cX12_behindFall 26 = .ok (.idiv, 1) := by decide +kernel
theorem dX12_behindFall_27 : decode cX12_behindFall 27 = .ok (.bipush 10, 2) := by decide +kernel
theorem dX12_behindFall_29 : decode cX12_behindFall 29 = .ok (.irem, 1) := by decide +kernel
theorem dX12_behindFall_30 : decode cX12_behindFall 30 = .ok (.invokevirtual 76, 3) := by decide +kernel
theorem dX12_behindFall_33 : decode cX12_behindFall 33 = .ok (.aload_n 0, 1) := by decide +kernel
theorem dX12_behindFall_34 : decode cX12_behindFall 34 = .ok (.iload_n 1, 1) := by decide +kernel
theorem dX12_behindFall_35 : decode cX12_behindFall 35 = .ok (.iconst 0, 1) := by decide +kernel
theorem dX12_behindFall_36 : decode cX12_behindFall 36 = .ok (.iload_n 2, 1) := by decide +kernel
theorem dX12_behindFall_37 : decode cX12_behindFall 37 = .ok (.bipush 10, 2) := by decide +kernel
theorem dX12_behindFall_39 : decode cX12_behindFall 39 = .ok (.irem, 1) := by decide +kernel
theorem dX12_behindFall_40 : decode cX12_behindFall 40 = .ok (.invokevirtual 87, 3) := by decide +kernel
theorem dX12_behindFall_43 : decode cX12_behindFall 43 = .ok (.aload_n 0, 1) := by decide +kernel
theorem dX12_behindFall_44 : decode cX12_behindFall 44 = .ok (.iload_n 1, 1) := by decide +kernel
theorem dX12_behindFall_45 : decode cX12_behindFall 45 = .ok (.iload_n 3, 1) := by decide +kernel
theorem dX12_behindFall_46 : decode cX12_behindFall 46 = .ok (.invokevirtual 339, 3) := by decide +kernel
theorem dX12_behindFall_49 : decode cX12_behindFall 49 = .ok (.aload_n 0, 1) := by decide +kernel
theorem dX12_behindFall_50 : decode cX12_behindFall 50 = .ok (.iload 4, 2) := by decide +kernel
theorem dX12_behindFall_52 : decode cX12_behindFall 52 = .ok (.iconst 0, 1) := by decide +kernel
theorem dX12_behindFall_53 : decode cX12_behindFall 53 = .ok (.invokevirtual 84, 3) := by decide +kernel
theorem dX12_behindFall_56 : decode cX12_behindFall 56 = .ok (.bipush 100, 2) := by decide +kernel
theorem dX12_behindFall_58 : decode cX12_behindFall 58 = .ok (.imul, 1) := by decide +kernel
theorem dX12_behindFall_59 : decode cX12_behindFall 59 = .ok (.aload_n 0, 1) := by decide +kernel
theorem dX12_behindFall_60 : decode cX12_behindFall 60 = .ok (.iload 4, 2) := by decide +kernel
theorem dX12_behindFall_62 : decode cX12_behindFall 62 = .ok (.iconst 1, 1) := by decide +kernel
theorem dX12_behindFall_63 : decode cX12_behindFall 63 = .ok (.invokevirtual 84, 3) := by decide +kernel
theorem dX12_behindFall_66 : decode cX12_behindFall 66 = .ok (.bipush 10, 2) := by decide +kernel
theorem dX12_behindFall_68 : decode cX12_behindFall 68 = .ok (.imul, 1) := by decide +kernel
theorem dX12_behindFall_69 : decode cX12_behindFall 69 = .ok (.iadd, 1) := by decide +kernel
theorem dX12_behindFall_70 : decode cX12_behindFall 70 = .ok (.iload_n 2, 1) := by decide +kernel
theorem dX12_behindFall_71 : decode cX12_behindFall 71 = .ok (.bipush 10, 2) := by decide +kernel
theorem dX12_behindFall_73 : decode cX12_behindFall 73 = .ok (.irem, 1) := by decide +kernel
theorem dX12_behindFall_74 : decode cX12_behindFall 74 = .ok (.iadd, 1) := by decide +kernel
theorem dX12_behindFall_75 : decode cX12_behindFall 75 = .ok (.iconst 1, 1) := by decide +kernel
theorem dX12_behindFall_76 : decode cX12_behindFall 76 = .ok (.iadd, 1) := by decide +kernel
theorem dX12_behindFall_77 : decode cX12_behindFall 77 = .ok (.ireturn, 1) := by decide +kernel
set_option maxRecDepth 20000 in
theorem ggX12_comfortedAt_X12_own : GoodIn wsX12_comfortedAt wsX12_own := goodIn_r _ [7, 8, 92, 93, 94, 95, 96, 97, 98, 99, 100, 101, 102, 103, 104, 105, 106, 107, 108, 109, 110, 111, 112, 113, 114, 115, 116, 117, 118, 119, 120, 121, 122] rfl (by decide +kernel)
set_option maxRecDepth 20000 in
theorem gX12_comfortedAt_X12_own : GoodIn wsX12_comfortedAt (wsV RX12 72 RX12 yX12_own wsX12_own) := goodIn_app (goodIn_of _ (by decide +kernel)) ggX12_comfortedAt_X12_own
set_option maxRecDepth 20000 in
theorem ggX12_comfortedAt_X12_get : GoodIn wsX12_comfortedAt wsX12_get := goodIn_r _ [12, 8, 92, 93, 94, 95, 96, 97, 98, 99, 100, 101, 102, 103, 104, 105, 106, 107, 108, 109, 110, 111, 112, 113, 114, 115, 116, 117, 118, 119, 120, 121, 122] rfl (by decide +kernel)
set_option maxRecDepth 20000 in
theorem gX12_comfortedAt_X12_get : GoodIn wsX12_comfortedAt (wsV RX12 84 RX12 yX12_get wsX12_get) := goodIn_app (goodIn_of _ (by decide +kernel)) ggX12_comfortedAt_X12_get
set_option maxRecDepth 20000 in
theorem ggX12_comfortedAt_X12_beginAt : GoodIn wsX12_comfortedAt wsX12_beginAt := goodIn_r _ [16, 17, 2, 18, 1, 92, 93, 94, 95, 96, 97, 98, 99, 100, 101, 102, 103, 104, 105, 106, 107, 108, 109, 110, 111, 112, 113, 114, 115, 116, 117, 118, 119, 120, 121, 122] rfl (by decide +kernel)
set_option maxRecDepth 20000 in
theorem gX12_comfortedAt_X12_beginAt : GoodIn wsX12_comfortedAt (wsV RX12 420 RX12 yX12_beginAt wsX12_beginAt) := goodIn_app (goodIn_of _ (by decide +kernel)) ggX12_comfortedAt_X12_beginAt
set_option maxRecDepth 20000 in
theorem ggX12_comfortedAt_X12_behindFall : GoodIn wsX12_comfortedAt wsX12_behindFall := goodIn_r _ [22, 3, 4, 5, 6, 7, 8, 23, 24, 25, 26, 27, 28, 29, 30, 31, 32, 33, 34, 9, 10, 11, 12, 35, 36, 37, 38, 39, 40, 41, 42, 43, 44, 45, 46, 47, 48, 49, 50, 51, 52, 53, 54, 55, 56, 57, 58, 59, 60, 61, 62, 63, 64, 65, 66, 67, 68, 69, 70, 71, 72, 73, 74, 75, 76, 77, 78, 79, 80, 81, 82, 83, 84, 85, 86, 92, 93, 94, 95, 96, 97, 98, 99, 100, 101, 102, 103, 104, 105, 106, 107, 108, 109, 110, 111, 112, 113, 114, 115, 116, 117, 118, 119, 120, 121, 122] rfl (by decide +kernel)
set_option maxRecDepth 20000 in
theorem gX12_comfortedAt_X12_behindFall : GoodIn wsX12_comfortedAt (wsV RX12 432 RX12 yX12_behindFall wsX12_behindFall) := goodIn_app (goodIn_of _ (by decide +kernel)) ggX12_comfortedAt_X12_behindFall
set_option maxRecDepth 20000 in
theorem ggX12_comfortedAt_X12_comeTo : GoodIn wsX12_comfortedAt wsX12_comeTo := goodIn_r _ [90, 17, 18, 91, 2, 1, 92, 93, 94, 95, 96, 97, 98, 99, 100, 101, 102, 103, 104, 105, 106, 107, 108, 109, 110, 111, 112, 113, 114, 115, 116, 117, 118, 119, 120, 121, 122] rfl (by decide +kernel)
set_option maxRecDepth 20000 in
theorem gX12_comfortedAt_X12_comeTo : GoodIn wsX12_comfortedAt (wsV RX12 426 RX12 yX12_comeTo wsX12_comeTo) := goodIn_app (goodIn_of _ (by decide +kernel)) ggX12_comfortedAt_X12_comeTo
theorem dX12_comfortedAt_0 : decode cX12_comfortedAt 0 = .ok (.aload_n 0, 1) := by decide +kernel
theorem dX12_comfortedAt_1 : decode cX12_comfortedAt 1 = .ok (.aload_n 0, 1) := by decide +kernel
theorem dX12_comfortedAt_2 : decode cX12_comfortedAt 2 = .ok (.aload_n 0, 1) := by decide +kernel
theorem dX12_comfortedAt_3 : decode cX12_comfortedAt 3 = .ok (.iload_n 1, 1) := by decide +kernel
theorem dX12_comfortedAt_4 : decode cX12_comfortedAt 4 = .ok (.iconst 1, 1) := by decide +kernel
theorem dX12_comfortedAt_5 : decode cX12_comfortedAt 5 = .ok (.invokevirtual 72, 3) := by decide +kernel
theorem dX12_comfortedAt_8 : decode cX12_comfortedAt 8 = .ok (.iconst 0, 1) := by decide +kernel
theorem dX12_comfortedAt_9 : decode cX12_comfortedAt 9 = .ok (.invokevirtual 84, 3) := by decide +kernel
theorem dX12_comfortedAt_12 : decode cX12_comfortedAt 12 = .ok (.bipush 100, 2) := by decide +kernel
theorem dX12_comfortedAt_14 : decode cX12_comfortedAt 14 = .ok (.imul, 1) := by decide +kernel
theorem dX12_comfortedAt_15 : decode cX12_comfortedAt 15 = .ok (.aload_n 0, 1) := by decide +kernel
theorem dX12_comfortedAt_16 : decode cX12_comfortedAt 16 = .ok (.aload_n 0, 1) := by decide +kernel
theorem dX12_comfortedAt_17 : decode cX12_comfortedAt 17 = .ok (.iload_n 1, 1) := by decide +kernel
theorem dX12_comfortedAt_18 : decode cX12_comfortedAt 18 = .ok (.iconst 1, 1) := by decide +kernel
theorem dX12_comfortedAt_19 : decode cX12_comfortedAt 19 = .ok (.invokevirtual 72, 3) := by decide +kernel
theorem dX12_comfortedAt_22 : decode cX12_comfortedAt 22 = .ok (.iconst 1, 1) := by decide +kernel
theorem dX12_comfortedAt_23 : decode cX12_comfortedAt 23 = .ok (.invokevirtual 84, 3) := by decide +kernel
theorem dX12_comfortedAt_26 : decode cX12_comfortedAt 26 = .ok (.bipush 10, 2) := by decide +kernel
theorem dX12_comfortedAt_28 : decode cX12_comfortedAt 28 = .ok (.imul, 1) := by decide +kernel
theorem dX12_comfortedAt_29 : decode cX12_comfortedAt 29 = .ok (.iadd, 1) := by decide +kernel
theorem dX12_comfortedAt_30 : decode cX12_comfortedAt 30 = .ok (.aload_n 0, 1) := by decide +kernel
theorem dX12_comfortedAt_31 : decode cX12_comfortedAt 31 = .ok (.iload_n 1, 1) := by decide +kernel
theorem dX12_comfortedAt_32 : decode cX12_comfortedAt 32 = .ok (.iconst 0, 1) := by decide +kernel
theorem dX12_comfortedAt_33 : decode cX12_comfortedAt 33 = .ok (.invokevirtual 72, 3) := by decide +kernel
theorem dX12_comfortedAt_36 : decode cX12_comfortedAt 36 = .ok (.iadd, 1) := by decide +kernel
theorem dX12_comfortedAt_37 : decode cX12_comfortedAt 37 = .ok (.sipush 10000, 3) := by decide +kernel
theorem dX12_comfortedAt_40 : decode cX12_comfortedAt 40 = .ok (.invokevirtual 420, 3) := by decide +kernel
theorem dX12_comfortedAt_43 : decode cX12_comfortedAt 43 = .ok (.iconst 0, 1) := by decide +kernel
theorem dX12_comfortedAt_44 : decode cX12_comfortedAt 44 = .ok (.istore_n 3, 1) := by decide +kernel
theorem dX12_comfortedAt_45 : decode cX12_comfortedAt 45 = .ok (.iload_n 3, 1) := by decide +kernel
theorem dX12_comfortedAt_46 : decode cX12_comfortedAt 46 = .ok (.aload_n 0, 1) := by decide +kernel
theorem dX12_comfortedAt_47 : decode cX12_comfortedAt 47 = .ok (.getfield 417, 3) := by decide +kernel
theorem dX12_comfortedAt_50 : decode cX12_comfortedAt 50 = .ok (.if_icmp .ge 71, 3) := by decide +kernel
theorem dX12_comfortedAt_53 : decode cX12_comfortedAt 53 = .ok (.aload_n 0, 1) := by decide +kernel
theorem dX12_comfortedAt_54 : decode cX12_comfortedAt 54 = .ok (.getfield 46, 3) := by decide +kernel
theorem dX12_comfortedAt_57 : decode cX12_comfortedAt 57 = .ok (.iload_n 3, 1) := by decide +kernel
theorem dX12_comfortedAt_58 : decode cX12_comfortedAt 58 = .ok (.iaload, 1) := by decide +kernel
theorem dX12_comfortedAt_59 : decode cX12_comfortedAt 59 = .ok (.istore 4, 2) := by decide +kernel
theorem dX12_comfortedAt_61 : decode cX12_comfortedAt 61 = .ok (.iload 4, 2) := by decide +kernel
theorem dX12_comfortedAt_63 : decode cX12_comfortedAt 63 = .ok (.bipush 100, 2) := by decide +kernel
theorem dX12_comfortedAt_65 : decode cX12_comfortedAt 65 = .ok (.idiv, 1) := by decide +kernel
theorem dX12_comfortedAt_66 : decode cX12_comfortedAt 66 = .ok (.iload_n 2, 1) := by decide +kernel
theorem dX12_comfortedAt_67 : decode cX12_comfortedAt 67 = .ok (.if_icmp .gt 6, 3) := by decide +kernel
theorem dX12_comfortedAt_70 : decode cX12_comfortedAt 70 = .ok (.iload 4, 2) := by decide +kernel
theorem dX12_comfortedAt_72 : decode cX12_comfortedAt 72 = .ok (.ireturn, 1) := by decide +kernel
theorem dX12_comfortedAt_73 : decode cX12_comfortedAt 73 = .ok (.iconst 0, 1) := by decide +kernel
theorem dX12_comfortedAt_74 : decode cX12_comfortedAt 74 = .ok (.istore 5, 2) := by decide +kernel
theorem dX12_comfortedAt_76 : decode cX12_comfortedAt 76 = .ok (.iload 5, 2) := by decide +kernel
theorem dX12_comfortedAt_78 : decode cX12_comfortedAt 78 = .ok (.iconst 5, 1) := by decide +kernel
theorem dX12_comfortedAt_79 : decode cX12_comfortedAt 79 = .ok (.if_icmp .ge 36, 3) := by decide +kernel
theorem dX12_comfortedAt_82 : decode cX12_comfortedAt 82 = .ok (.iload 4, 2) := by decide +kernel
theorem dX12_comfortedAt_84 : decode cX12_comfortedAt 84 = .ok (.bipush 10, 2) := by decide +kernel
theorem dX12_comfortedAt_86 : decode cX12_comfortedAt 86 = .ok (.irem, 1) := by decide +kernel
theorem dX12_comfortedAt_87 : decode cX12_comfortedAt 87 = .ok (.bipush 9, 2) := by decide +kernel
theorem dX12_comfortedAt_89 : decode cX12_comfortedAt 89 = .ok (.if_icmp .ge 26, 3) := by decide +kernel
theorem dX12_comfortedAt_92 : decode cX12_comfortedAt 92 = .ok (.aload_n 0, 1) := by decide +kernel
theorem dX12_comfortedAt_93 : decode cX12_comfortedAt 93 = .ok (.aload_n 0, 1) := by decide +kernel
theorem dX12_comfortedAt_94 : decode cX12_comfortedAt 94 = .ok (.iload_n 1, 1) := by decide +kernel
theorem dX12_comfortedAt_95 : decode cX12_comfortedAt 95 = .ok (.iload 4, 2) := by decide +kernel
theorem dX12_comfortedAt_97 : decode cX12_comfortedAt 97 = .ok (.iload 5, 2) := by decide +kernel
theorem dX12_comfortedAt_99 : decode cX12_comfortedAt 99 = .ok (.invokevirtual 432, 3) := by decide +kernel
theorem dX12_comfortedAt_102 : decode cX12_comfortedAt 102 = .ok (.iload 4, 2) := by decide +kernel
theorem dX12_comfortedAt_104 : decode cX12_comfortedAt 104 = .ok (.iload 5, 2) := by decide +kernel
theorem dX12_comfortedAt_106 : decode cX12_comfortedAt 106 = .ok (.invokevirtual 426, 3) := by decide +kernel
theorem dX12_comfortedAt_109 : decode cX12_comfortedAt 109 = .ok (.iinc 5 1, 3) := by decide +kernel
theorem dX12_comfortedAt_112 : decode cX12_comfortedAt 112 = .ok (.goto (-36), 3) := by decide +kernel
theorem dX12_comfortedAt_115 : decode cX12_comfortedAt 115 = .ok (.iinc 3 1, 3) := by decide +kernel
theorem dX12_comfortedAt_118 : decode cX12_comfortedAt 118 = .ok (.goto (-73), 3) := by decide +kernel
theorem dX12_comfortedAt_121 : decode cX12_comfortedAt 121 = .ok (.iconst (-1), 1) := by decide +kernel
theorem dX12_comfortedAt_122 : decode cX12_comfortedAt 122 = .ok (.ireturn, 1) := by decide +kernel
set_option maxRecDepth 20000 in
theorem ggX12_comfort_X12_isAtHouse : GoodIn wsX12_comfort wsX12_isAtHouse := goodIn_r _ [5, 6, 7, 8, 4, 9, 10, 11, 12, 13, 14, 15, 16, 17, 120, 121, 122, 123, 124, 125, 126, 127, 128, 129, 130, 131, 132, 133, 134, 135, 136, 137, 138, 139, 140, 141, 142, 143, 144, 145, 146, 147, 148, 149, 150] rfl (by decide +kernel)
set_option maxRecDepth 20000 in
theorem gX12_comfort_X12_isAtHouse : GoodIn wsX12_comfort (wsV RX12 366 RX12 yX12_isAtHouse wsX12_isAtHouse) := goodIn_app (goodIn_of _ (by decide +kernel)) ggX12_comfort_X12_isAtHouse
set_option maxRecDepth 20000 in
theorem ggX12_comfort_X12_isIn : GoodIn wsX12_comfort wsX12_isIn := goodIn_r _ [13] rfl (by decide +kernel)
set_option maxRecDepth 20000 in
theorem gX12_comfort_X12_isIn : GoodIn wsX12_comfort (va_wsS RX12 68 yX12_isIn wsX12_isIn) := goodIn_app (goodIn_of _ (by decide +kernel)) ggX12_comfort_X12_isIn
set_option maxRecDepth 20000 in
theorem ggX12_comfort_X12_setAside : GoodIn wsX12_comfort wsX12_setAside := goodIn_r _ [21, 22, 10, 120, 121, 122, 123, 124, 125, 126, 127, 128, 129, 130, 131, 132, 133, 134, 135, 136, 137, 138, 139, 140, 141, 142, 143, 144, 145, 146, 147, 148, 149, 150] rfl (by decide +kernel)
set_option maxRecDepth 20000 in
theorem gX12_comfort_X12_setAside : GoodIn wsX12_comfort (wsV RX12 408 RX12 yX12_setAside wsX12_setAside) := goodIn_app (goodIn_of _ (by decide +kernel)) ggX12_comfort_X12_setAside
set_option maxRecDepth 20000 in
theorem ggX12_comfort_X12_comfortedAt : GoodIn wsX12_comfort wsX12_comfortedAt := goodIn_r _ [26, 27, 28, 14, 15, 16, 4, 17, 10, 29, 30, 31, 32, 33, 34, 35, 36, 37, 38, 39, 40, 41, 42, 43, 44, 45, 46, 47, 48, 49, 50, 51, 52, 53, 54, 55, 56, 57, 58, 59, 60, 61, 62, 63, 64, 65, 66, 67, 68, 69, 70, 71, 72, 73, 74, 75, 76, 77, 78, 79, 80, 81, 82, 83, 84, 85, 86, 87, 88, 89, 90, 91, 92, 93, 94, 95, 96, 97, 98, 99, 100, 101, 102, 103, 104, 105, 106, 107, 108, 109, 110, 111, 120, 121, 122, 123, 124, 125, 126, 127, 128, 129, 130, 131, 132, 133, 134, 135, 136, 137, 138, 139, 140, 141, 142, 143, 144, 145, 146, 147, 148, 149, 150] rfl (by decide +kernel)
set_option maxRecDepth 20000 in
theorem gX12_comfort_X12_comfortedAt : GoodIn wsX12_comfort (wsV RX12 435 RX12 yX12_comfortedAt wsX12_comfortedAt) := goodIn_app (goodIn_of _ (by decide +kernel)) ggX12_comfort_X12_comfortedAt
set_option maxRecDepth 20000 in
theorem ggX12_comfort_X12_putBack : GoodIn wsX12_comfort wsX12_putBack := goodIn_r _ [115, 10, 22, 120, 121, 122, 123, 124, 125, 126, 127, 128, 129, 130, 131, 132, 133, 134, 135, 136, 137, 138, 139, 140, 141, 142, 143, 144, 145, 146, 147, 148, 149, 150] rfl (by decide +kernel)
set_option maxRecDepth 20000 in
theorem gX12_comfort_X12_putBack : GoodIn wsX12_comfort (wsV RX12 411 RX12 yX12_putBack wsX12_putBack) := goodIn_app (goodIn_of _ (by decide +kernel)) ggX12_comfort_X12_putBack
set_option maxRecDepth 20000 in
theorem ggX12_comfort_X12_wayTo : GoodIn wsX12_comfort wsX12_wayTo := goodIn_r _ [119, 37, 38, 111, 11, 12, 4, 13, 120, 121, 122, 123, 124, 125, 126, 127, 128, 129, 130, 131, 132, 133, 134, 135, 136, 137, 138, 139, 140, 141, 142, 143, 144, 145, 146, 147, 148, 149, 150] rfl (by decide +kernel)
set_option maxRecDepth 20000 in
theorem gX12_comfort_X12_wayTo : GoodIn wsX12_comfort (wsV RX12 423 RX12 yX12_wayTo wsX12_wayTo) := goodIn_app (goodIn_of _ (by decide +kernel)) ggX12_comfort_X12_wayTo
theorem dX12_comfort_0 : decode cX12_comfort 0 = .ok (.aload_n 0, 1) := by decide +kernel
theorem dX12_comfort_1 : decode cX12_comfort 1 = .ok (.iload_n 1, 1) := by decide +kernel
theorem dX12_comfort_2 : decode cX12_comfort 2 = .ok (.invokevirtual 366, 3) := by decide +kernel
theorem dX12_comfort_5 : decode cX12_comfort 5 = .ok (.ifCond .eq 13, 3) := by decide +kernel
theorem dX12_comfort_8 : decode cX12_comfort 8 = .ok (.iload_n 2, 1) := by decide +kernel
theorem dX12_comfort_9 : decode cX12_comfort 9 = .ok (.iconst 0, 1) := by decide +kernel
theorem dX12_comfort_10 : decode cX12_comfort 10 = .ok (.bipush 99, 2) := by decide +kernel
theorem dX12_comfort_12 : decode cX12_comfort 12 = .ok (.invokestatic 68, 3) := by decide +kernel
theorem dX12_comfort_15 : decode cX12_comfort 15 = .ok (.ifCond .ne 6, 3) := by decide +kernel
theorem dX12_comfort_18 : decode cX12_comfort 18 = .ok (.bipush (-2), 2) := by decide +kernel
theorem dX12_comfort_20 : decode cX12_comfort 20 = .ok (.ireturn, 1) := by decide +kernel
theorem dX12_comfort_21 : decode cX12_comfort 21 = .ok (.aload_n 0, 1) := by decide +kernel
theorem dX12_comfort_22 : decode cX12_comfort 22 = .ok (.invokevirtual 408, 3) := by decide +kernel
theorem dX12_comfort_25 : decode cX12_comfort 25 = .ok (.aload_n 0, 1) := by decide +kernel
theorem dX12_comfort_26 : decode cX12_comfort 26 = .ok (.iload_n 1, 1) := by decide +kernel
theorem dX12_comfort_27 : decode cX12_comfort 27 = .ok (.iload_n 2, 1) := by decide +kernel
theorem dX12_comfort_28 : decode cX12_comfort 28 = .ok (.invokevirtual 435, 3) := by decide +kernel
theorem dX12_comfort_31 : decode cX12_comfort 31 = .ok (.istore 4, 2) := by decide +kernel
theorem dX12_comfort_33 : decode cX12_comfort 33 = .ok (.aload_n 0, 1) := by decide +kernel
theorem dX12_comfort_34 : decode cX12_comfort 34 = .ok (.invokevirtual 411, 3) := by decide +kernel
theorem dX12_comfort_37 : decode cX12_comfort 37 = .ok (.aload_n 0, 1) := by decide +kernel
theorem dX12_comfort_38 : decode cX12_comfort 38 = .ok (.iload 4, 2) := by decide +kernel
theorem dX12_comfort_40 : decode cX12_comfort 40 = .ok (.iload_n 3, 1) := by decide +kernel
theorem dX12_comfort_41 : decode cX12_comfort 41 = .ok (.invokevirtual 423, 3) := by decide +kernel
theorem dX12_comfort_44 : decode cX12_comfort 44 = .ok (.ireturn, 1) := by decide +kernel
set_option maxRecDepth 20000 in
theorem ggX12_ring_X12_isKind : GoodIn wsX12_ring wsX12_isKind := goodIn_r _ [4, 5, 6, 3, 7] rfl (by decide +kernel)
set_option maxRecDepth 20000 in
theorem gX12_ring_X12_isKind : GoodIn wsX12_ring (va_wsS RX12 93 yX12_isKind wsX12_isKind) := goodIn_app (goodIn_of _ (by decide +kernel)) ggX12_ring_X12_isKind
set_option maxRecDepth 20000 in
theorem ggX12_ring_X12_moodsBy : GoodIn wsX12_ring wsX12_moodsBy := goodIn_r _ [11, 12, 13, 3, 14, 15, 16, 17, 18, 19, 20, 21, 22, 23, 24, 25, 26, 27, 28, 29, 30, 31, 32, 33, 34, 35, 36, 37, 38, 39, 40, 41, 42, 43, 44, 45, 46, 47, 48, 49, 50] rfl (by decide +kernel)
set_option maxRecDepth 20000 in
theorem gX12_ring_X12_moodsBy : GoodIn wsX12_ring (wsV RX12 429 RX12 yX12_moodsBy wsX12_moodsBy) := goodIn_app (goodIn_of _ (by decide +kernel)) ggX12_ring_X12_moodsBy
theorem dX12_ring_0 : decode cX12_ring 0 = .ok (.iload_n 1, 1) := by decide +kernel
theorem dX12_ring_1 : decode cX12_ring 1 = .ok (.invokestatic 93, 3) := by decide +kernel
theorem dX12_ring_4 : decode cX12_ring 4 = .ok (.ifCond .ne 5, 3) := by decide +kernel
theorem dX12_ring_7 : decode cX12_ring 7 = .ok (.iconst (-1), 1) := by decide +kernel
theorem dX12_ring_8 : decode cX12_ring 8 = .ok (.ireturn, 1) := by decide +kernel
theorem dX12_ring_9 : decode cX12_ring 9 = .ok (.sipush 1023, 3) := by decide +kernel
theorem dX12_ring_12 : decode cX12_ring 12 = .ok (.istore_n 2, 1) := by decide +kernel
theorem dX12_ring_13 : decode cX12_ring 13 = .ok (.iconst 0, 1) := by decide +kernel
theorem dX12_ring_14 : decode cX12_ring 14 = .ok (.istore_n 3, 1) := by decide +kernel
theorem dX12_ring_15 : decode cX12_ring 15 = .ok (.iload_n 3, 1) := by decide +kernel
theorem dX12_ring_16 : decode cX12_ring 16 = .ok (.bipush 10, 2) := by decide +kernel
theorem dX12_ring_18 : decode cX12_ring 18 = .ok (.if_icmp .ge 16, 3) := by decide +kernel
theorem dX12_ring_21 : decode cX12_ring 21 = .ok (.aload_n 0, 1) := by decide +kernel
theorem dX12_ring_22 : decode cX12_ring 22 = .ok (.iload_n 1, 1) := by decide +kernel
theorem dX12_ring_23 : decode cX12_ring 23 = .ok (.iload_n 2, 1) := by decide +kernel
theorem dX12_ring_24 : decode cX12_ring 24 = .ok (.invokevirtual 429, 3) := by decide +kernel
theorem dX12_ring_27 : decode cX12_ring 27 = .ok (.istore_n 2, 1) := by decide +kernel
theorem dX12_ring_28 : decode cX12_ring 28 = .ok (.iinc 3 1, 3) := by decide +kernel
theorem dX12_ring_31 : decode cX12_ring 31 = .ok (.goto (-16), 3) := by decide +kernel
theorem dX12_ring_34 : decode cX12_ring 34 = .ok (.iload_n 2, 1) := by decide +kernel
theorem dX12_ring_35 : decode cX12_ring 35 = .ok (.ireturn, 1) := by decide +kernel
set_option maxRecDepth 20000 in
theorem ggX12_cost_X12_isIn : GoodIn wsX12_cost wsX12_isIn := goodIn_r _ [5] rfl (by decide +kernel)
set_option maxRecDepth 20000 in
theorem gX12_cost_X12_isIn : GoodIn wsX12_cost (va_wsS RX12 68 yX12_isIn wsX12_isIn) := goodIn_app (goodIn_of _ (by decide +kernel)) ggX12_cost_X12_isIn
theorem dX12_cost_0 : decode cX12_cost 0 = .ok (.iload_n 1, 1) := by decide +kernel
theorem dX12_cost_1 : decode cX12_cost 1 = .ok (.iconst 0, 1) := by decide +kernel
theorem dX12_cost_2 : decode cX12_cost 2 = .ok (.iconst 4, 1) := by decide +kernel
theorem dX12_cost_3 : decode cX12_cost 3 = .ok (.invokestatic 68, 3) := by decide +kernel
theorem dX12_cost_6 : decode cX12_cost 6 = .ok (.ifCond .eq 22, 3) := by decide +kernel
theorem dX12_cost_9 : decode cX12_cost 9 = .ok (.iload_n 2, 1) := by decide +kernel
theorem dX12_cost_10 : decode cX12_cost 10 = .ok (.iconst 0, 1) := by decide +kernel
theorem dX12_cost_11 : decode cX12_cost 11 = .ok (.iconst 5, 1) := by decide +kernel
theorem dX12_cost_12 : decode cX12_cost 12 = .ok (.invokestatic 68, 3) := by decide +kernel
theorem dX12_cost_15 : decode cX12_cost 15 = .ok (.ifCond .eq 13, 3) := by decide +kernel
theorem dX12_cost_18 : decode cX12_cost 18 = .ok (.iload_n 3, 1) := by decide +kernel
theorem dX12_cost_19 : decode cX12_cost 19 = .ok (.iconst 0, 1) := by decide +kernel
theorem dX12_cost_20 : decode cX12_cost 20 = .ok (.bipush 99, 2) := by decide +kernel
theorem dX12_cost_22 : decode cX12_cost 22 = .ok (.invokestatic 68, 3) := by decide +kernel
theorem dX12_cost_25 : decode cX12_cost 25 = .ok (.ifCond .ne 5, 3) := by decide +kernel
theorem dX12_cost_28 : decode cX12_cost 28 = .ok (.iconst 0, 1) := by decide +kernel
theorem dX12_cost_29 : decode cX12_cost 29 = .ok (.ireturn, 1) := by decide +kernel
theorem dX12_cost_30 : decode cX12_cost 30 = .ok (.aload_n 0, 1) := by decide +kernel
theorem dX12_cost_31 : decode cX12_cost 31 = .ok (.getfield 7, 3) := by decide +kernel
theorem dX12_cost_34 : decode cX12_cost 34 = .ok (.bipush 121, 2) := by decide +kernel
theorem dX12_cost_36 : decode cX12_cost 36 = .ok (.bipush 6, 2) := by decide +kernel
theorem dX12_cost_38 : decode cX12_cost 38 = .ok (.iload_n 1, 1) := by decide +kernel
theorem dX12_cost_39 : decode cX12_cost 39 = .ok (.imul, 1) := by decide +kernel
theorem dX12_cost_40 : decode cX12_cost 40 = .ok (.iadd, 1) := by decide +kernel
theorem dX12_cost_41 : decode cX12_cost 41 = .ok (.iload_n 2, 1) := by decide +kernel
theorem dX12_cost_42 : decode cX12_cost 42 = .ok (.iadd, 1) := by decide +kernel
theorem dX12_cost_43 : decode cX12_cost 43 = .ok (.iload_n 3, 1) := by decide +kernel
theorem dX12_cost_44 : decode cX12_cost 44 = .ok (.iastore, 1) := by decide +kernel
theorem dX12_cost_45 : decode cX12_cost 45 = .ok (.iconst 1, 1) := by decide +kernel
theorem dX12_cost_46 : decode cX12_cost 46 = .ok (.ireturn, 1) := by decide +kernel
theorem dX12_goingTo_0 : decode cX12_goingTo 0 = .ok (.aload_n 0, 1) := by decide +kernel
theorem dX12_goingTo_1 : decode cX12_goingTo 1 = .ok (.getfield 7, 3) := by decide +kernel
theorem dX12_goingTo_4 : decode cX12_goingTo 4 = .ok (.bipush 121, 2) := by decide +kernel
theorem dX12_goingTo_6 : decode cX12_goingTo 6 = .ok (.bipush 6, 2) := by decide +kernel
theorem dX12_goingTo_8 : decode cX12_goingTo 8 = .ok (.iload_n 1, 1) := by decide +kernel
theorem dX12_goingTo_9 : decode cX12_goingTo 9 = .ok (.imul, 1) := by decide +kernel
theorem dX12_goingTo_10 : decode cX12_goingTo 10 = .ok (.iadd, 1) := by decide +kernel
theorem dX12_goingTo_11 : decode cX12_goingTo 11 = .ok (.iload_n 2, 1) := by decide +kernel
theorem dX12_goingTo_12 : decode cX12_goingTo 12 = .ok (.iadd, 1) := by decide +kernel
theorem dX12_goingTo_13 : decode cX12_goingTo 13 = .ok (.iaload, 1) := by decide +kernel
theorem dX12_goingTo_14 : decode cX12_goingTo 14 = .ok (.sipush 10000, 3) := by decide +kernel
theorem dX12_goingTo_17 : decode cX12_goingTo 17 = .ok (.isub, 1) := by decide +kernel
theorem dX12_goingTo_18 : decode cX12_goingTo 18 = .ok (.aload_n 0, 1) := by decide +kernel
theorem dX12_goingTo_19 : decode cX12_goingTo 19 = .ok (.getfield 58, 3) := by decide +kernel
theorem dX12_goingTo_22 : decode cX12_goingTo 22 = .ok (.bipush 64, 2) := by decide +kernel
theorem dX12_goingTo_24 : decode cX12_goingTo 24 = .ok (.iload_n 1, 1) := by decide +kernel
theorem dX12_goingTo_25 : decode cX12_goingTo 25 = .ok (.iconst 1, 1) := by decide +kernel
theorem dX12_goingTo_26 : decode cX12_goingTo 26 = .ok (.iadd, 1) := by decide +kernel
theorem dX12_goingTo_27 : decode cX12_goingTo 27 = .ok (.imul, 1) := by decide +kernel
theorem dX12_goingTo_28 : decode cX12_goingTo 28 = .ok (.iload_n 3, 1) := by decide +kernel
theorem dX12_goingTo_29 : decode cX12_goingTo 29 = .ok (.iconst 1, 1) := by decide +kernel
theorem dX12_goingTo_30 : decode cX12_goingTo 30 = .ok (.iload_n 2, 1) := by decide +kernel
theorem dX12_goingTo_31 : decode cX12_goingTo 31 = .ok (.ishl, 1) := by decide +kernel
theorem dX12_goingTo_32 : decode cX12_goingTo 32 = .ok (.ior, 1) := by decide +kernel
theorem dX12_goingTo_33 : decode cX12_goingTo 33 = .ok (.iadd, 1) := by decide +kernel
theorem dX12_goingTo_34 : decode cX12_goingTo 34 = .ok (.iaload, 1) := by decide +kernel
theorem dX12_goingTo_35 : decode cX12_goingTo 35 = .ok (.iadd, 1) := by decide +kernel
theorem dX12_goingTo_36 : decode cX12_goingTo 36 = .ok (.ireturn, 1) := by decide +kernel
set_option maxRecDepth 20000 in
theorem ggX12_layCheap_X12_has : GoodIn wsX12_layCheap wsX12_has := goodIn_r _ [6] rfl (by decide +kernel)
set_option maxRecDepth 20000 in
theorem gX12_layCheap_X12_has : GoodIn wsX12_layCheap (va_wsS RX12 262 yX12_has wsX12_has) := goodIn_app (goodIn_of _ (by decide +kernel)) ggX12_layCheap_X12_has
set_option maxRecDepth 20000 in
theorem ggX12_layCheap_X12_goingTo : GoodIn wsX12_layCheap wsX12_goingTo := goodIn_r _ [10, 2, 1, 11, 12, 13, 14, 15, 16, 17, 18, 19, 20, 21, 22, 23, 24, 25, 26, 27, 28, 29, 30, 31, 32, 33, 34, 35, 36, 37, 38, 39, 40, 41] rfl (by decide +kernel)
set_option maxRecDepth 20000 in
theorem gX12_layCheap_X12_goingTo : GoodIn wsX12_layCheap (wsV RX12 438 RX12 yX12_goingTo wsX12_goingTo) := goodIn_app (goodIn_of _ (by decide +kernel)) ggX12_layCheap_X12_goingTo
theorem dX12_layCheap_0 : decode cX12_layCheap 0 = .ok (.iconst 0, 1) := by decide +kernel
theorem dX12_layCheap_1 : decode cX12_layCheap 1 = .ok (.istore_n 1, 1) := by decide +kernel
theorem dX12_layCheap_2 : decode cX12_layCheap 2 = .ok (.iload_n 1, 1) := by decide +kernel
theorem dX12_layCheap_3 : decode cX12_layCheap 3 = .ok (.bipush 64, 2) := by decide +kernel
theorem dX12_layCheap_5 : decode cX12_layCheap 5 = .ok (.if_icmp .ge 26, 3) := by decide +kernel
theorem dX12_layCheap_8 : decode cX12_layCheap 8 = .ok (.aload_n 0, 1) := by decide +kernel
theorem dX12_layCheap_9 : decode cX12_layCheap 9 = .ok (.getfield 58, 3) := by decide +kernel
theorem dX12_layCheap_12 : decode cX12_layCheap 12 = .ok (.bipush 64, 2) := by decide +kernel
theorem dX12_layCheap_14 : decode cX12_layCheap 14 = .ok (.aload_n 0, 1) := by decide +kernel
theorem dX12_layCheap_15 : decode cX12_layCheap 15 = .ok (.getfield 7, 3) := by decide +kernel
theorem dX12_layCheap_18 : decode cX12_layCheap 18 = .ok (.iconst 1, 1) := by decide +kernel
theorem dX12_layCheap_19 : decode cX12_layCheap 19 = .ok (.iaload, 1) := by decide +kernel
theorem dX12_layCheap_20 : decode cX12_layCheap 20 = .ok (.imul, 1) := by decide +kernel
theorem dX12_layCheap_21 : decode cX12_layCheap 21 = .ok (.iload_n 1, 1) := by decide +kernel
theorem dX12_layCheap_22 : decode cX12_layCheap 22 = .ok (.iadd, 1) := by decide +kernel
theorem dX12_layCheap_23 : decode cX12_layCheap 23 = .ok (.iconst 0, 1) := by decide +kernel
theorem dX12_layCheap_24 : decode cX12_layCheap 24 = .ok (.iastore, 1) := by decide +kernel
theorem dX12_layCheap_25 : decode cX12_layCheap 25 = .ok (.iinc 1 1, 3) := by decide +kernel
theorem dX12_layCheap_28 : decode cX12_layCheap 28 = .ok (.goto (-26), 3) := by decide +kernel
theorem dX12_layCheap_31 : decode cX12_layCheap 31 = .ok (.aload_n 0, 1) := by decide +kernel
theorem dX12_layCheap_32 : decode cX12_layCheap 32 = .ok (.getfield 7, 3) := by decide +kernel
theorem dX12_layCheap_35 : decode cX12_layCheap 35 = .ok (.iconst 1, 1) := by decide +kernel
theorem dX12_layCheap_36 : decode cX12_layCheap 36 = .ok (.iaload, 1) := by decide +kernel
theorem dX12_layCheap_37 : decode cX12_layCheap 37 = .ok (.iconst 1, 1) := by decide +kernel
theorem dX12_layCheap_38 : decode cX12_layCheap 38 = .ok (.isub, 1) := by decide +kernel
theorem dX12_layCheap_39 : decode cX12_layCheap 39 = .ok (.istore_n 1, 1) := by decide +kernel
theorem dX12_layCheap_40 : decode cX12_layCheap 40 = .ok (.iload_n 1, 1) := by decide +kernel
theorem dX12_layCheap_41 : decode cX12_layCheap 41 = .ok (.ifCond .lt 99, 3) := by decide +kernel
theorem dX12_layCheap_44 : decode cX12_layCheap 44 = .ok (.iconst 0, 1) := by decide +kernel
theorem dX12_layCheap_45 : decode cX12_layCheap 45 = .ok (.istore_n 2, 1) := by decide +kernel
theorem dX12_layCheap_46 : decode cX12_layCheap 46 = .ok (.iload_n 2, 1) := by decide +kernel
theorem dX12_layCheap_47 : decode cX12_layCheap 47 = .ok (.bipush 64, 2) := by decide +kernel
theorem dX12_layCheap_49 : decode cX12_layCheap 49 = .ok (.if_icmp .ge 85, 3) := by decide +kernel
theorem dX12_layCheap_52 : decode cX12_layCheap 52 = .ok (.aload_n 0, 1) := by decide +kernel
theorem dX12_layCheap_53 : decode cX12_layCheap 53 = .ok (.getfield 58, 3) := by decide +kernel
theorem dX12_layCheap_56 : decode cX12_layCheap 56 = .ok (.bipush 64, 2) := by decide +kernel
theorem dX12_layCheap_58 : decode cX12_layCheap 58 = .ok (.iload_n 1, 1) := by decide +kernel
theorem dX12_layCheap_59 : decode cX12_layCheap 59 = .ok (.iconst 1, 1) := by decide +kernel
theorem dX12_layCheap_60 : decode cX12_layCheap 60 = .ok (.iadd, 1) := by decide +kernel
theorem dX12_layCheap_61 : decode cX12_layCheap 61 = .ok (.imul, 1) := by decide +kernel
theorem dX12_layCheap_62 : decode cX12_layCheap 62 = .ok (.iload_n 2, 1) := by decide +kernel
theorem dX12_layCheap_63 : decode cX12_layCheap 63 = .ok (.iadd, 1) := by decide +kernel
theorem dX12_layCheap_64 : decode cX12_layCheap 64 = .ok (.iaload, 1) := by decide +kernel
theorem dX12_layCheap_65 : decode cX12_layCheap 65 = .ok (.istore_n 3, 1) := by decide +kernel
theorem dX12_layCheap_66 : decode cX12_layCheap 66 = .ok (.iconst 0, 1) := by decide +kernel
theorem dX12_layCheap_67 : decode cX12_layCheap 67 = .ok (.istore 4, 2) := by decide +kernel
theorem dX12_layCheap_69 : decode cX12_layCheap 69 = .ok (.iload 4, 2) := by decide +kernel
theorem dX12_layCheap_71 : decode cX12_layCheap 71 = .ok (.aload_n 0, 1) := by decide +kernel
theorem dX12_layCheap_72 : decode cX12_layCheap 72 = .ok (.getfield 7, 3) := by decide +kernel
theorem dX12_layCheap_75 : decode cX12_layCheap 75 = .ok (.iconst 0, 1) := by decide +kernel
theorem dX12_layCheap_76 : decode cX12_layCheap 76 = .ok (.iaload, 1) := by decide +kernel
theorem dX12_layCheap_77 : decode cX12_layCheap 77 = .ok (.if_icmp .ge 39, 3) := by decide +kernel
theorem dX12_layCheap_80 : decode cX12_layCheap 80 = .ok (.iload_n 2, 1) := by decide +kernel
theorem dX12_layCheap_81 : decode cX12_layCheap 81 = .ok (.iload 4, 2) := by decide +kernel
theorem dX12_layCheap_83 : decode cX12_layCheap 83 = .ok (.invokestatic 262, 3) := by decide +kernel
theorem dX12_layCheap_86 : decode cX12_layCheap 86 = .ok (.ifCond .ne 24, 3) := by decide +kernel
theorem dX12_layCheap_89 : decode cX12_layCheap 89 = .ok (.aload_n 0, 1) := by decide +kernel
theorem dX12_layCheap_90 : decode cX12_layCheap 90 = .ok (.iload_n 1, 1) := by decide +kernel
theorem dX12_layCheap_91 : decode cX12_layCheap 91 = .ok (.iload 4, 2) := by decide +kernel
theorem dX12_layCheap_93 : decode cX12_layCheap 93 = .ok (.iload_n 2, 1) := by decide +kernel
theorem dX12_layCheap_94 : decode cX12_layCheap 94 = .ok (.invokevirtual 438, 3) := by decide +kernel
theorem dX12_layCheap_97 : decode cX12_layCheap 97 = .ok (.iload_n 3, 1) := by decide +kernel
theorem dX12_layCheap_98 : decode cX12_layCheap 98 = .ok (.if_icmp .ge 12, 3) := by decide +kernel
theorem dX12_layCheap_101 : decode cX12_layCheap 101 = .ok (.aload_n 0, 1) := by decide +kernel
theorem dX12_layCheap_102 : decode cX12_layCheap 102 = .ok (.iload_n 1, 1) := by decide +kernel
theorem dX12_layCheap_103 : decode cX12_layCheap 103 = .ok (.iload 4, 2) := by decide +kernel
theorem dX12_layCheap_105 : decode cX12_layCheap 105 = .ok (.iload_n 2, 1) := by decide +kernel
theorem dX12_layCheap_106 : decode cX12_layCheap 106 = .ok (.invokevirtual 438, 3) := by decide +kernel
theorem dX12_layCheap_109 : decode cX12_layCheap 109 = .ok (.istore_n 3, 1) := by decide +kernel
theorem dX12_layCheap_110 : decode cX12_layCheap 110 = .ok (.iinc 4 1, 3) := by decide +kernel
theorem dX12_layCheap_113 : decode cX12_layCheap 113 = .ok (.goto (-44), 3) := by decide +kernel
theorem dX12_layCheap_116 : decode cX12_layCheap 116 = .ok (.aload_n 0, 1) := by decide +kernel
theorem dX12_layCheap_117 : decode cX12_layCheap 117 = .ok (.getfield 58, 3) := by decide +kernel
theorem dX12_layCheap_120 : decode cX12_layCheap 120 = .ok (.bipush 64, 2) := by decide +kernel
theorem dX12_layCheap_122 : decode cX12_layCheap 122 = .ok (.iload_n 1, 1) := by decide +kernel
theorem dX12_layCheap_123 : decode cX12_layCheap 123 = .ok (.imul, 1) := by decide +kernel
theorem dX12_layCheap_124 : decode cX12_layCheap 124 = .ok (.iload_n 2, 1) := by decide +kernel
theorem dX12_layCheap_125 : decode cX12_layCheap 125 = .ok (.iadd, 1) := by decide +kernel
theorem dX12_layCheap_126 : decode cX12_layCheap 126 = .ok (.iload_n 3, 1) := by decide +kernel
theorem dX12_layCheap_127 : decode cX12_layCheap 127 = .ok (.iastore, 1) := by decide +kernel
theorem dX12_layCheap_128 : decode cX12_layCheap 128 = .ok (.iinc 2 1, 3) := by decide +kernel
theorem dX12_layCheap_131 : decode cX12_layCheap 131 = .ok (.goto (-85), 3) := by decide +kernel
theorem dX12_layCheap_134 : decode cX12_layCheap 134 = .ok (.iinc 1 (-1), 3) := by decide +kernel
theorem dX12_layCheap_137 : decode cX12_layCheap 137 = .ok (.goto (-97), 3) := by decide +kernel
theorem dX12_layCheap_140 : decode cX12_layCheap 140 = .ok (.return_, 1) := by decide +kernel
set_option maxRecDepth 20000 in
theorem ggX12_goesTo_X12_has : GoodIn wsX12_goesTo wsX12_has := goodIn_r _ [6] rfl (by decide +kernel)
set_option maxRecDepth 20000 in
theorem gX12_goesTo_X12_has : GoodIn wsX12_goesTo (va_wsS RX12 262 yX12_has wsX12_has) := goodIn_app (goodIn_of _ (by decide +kernel)) ggX12_goesTo_X12_has
set_option maxRecDepth 20000 in
theorem ggX12_goesTo_X12_goingTo : GoodIn wsX12_goesTo wsX12_goingTo := goodIn_r _ [10, 1, 2, 11, 12, 13, 14, 15, 16, 17, 18, 19, 20, 21, 22, 23, 24, 25, 26, 27, 28, 29, 30, 31, 32, 33, 34, 35, 36, 37, 38, 39, 40, 41] rfl (by decide +kernel)
set_option maxRecDepth 20000 in
theorem gX12_goesTo_X12_goingTo : GoodIn wsX12_goesTo (wsV RX12 438 RX12 yX12_goingTo wsX12_goingTo) := goodIn_app (goodIn_of _ (by decide +kernel)) ggX12_goesTo_X12_goingTo
theorem dX12_goesTo_0 : decode cX12_goesTo 0 = .ok (.iconst 0, 1) := by decide +kernel
theorem dX12_goesTo_1 : decode cX12_goesTo 1 = .ok (.istore_n 3, 1) := by decide +kernel
theorem dX12_goesTo_2 : decode cX12_goesTo 2 = .ok (.iload_n 3, 1) := by decide +kernel
theorem dX12_goesTo_3 : decode cX12_goesTo 3 = .ok (.aload_n 0, 1) := by decide +kernel
theorem dX12_goesTo_4 : decode cX12_goesTo 4 = .ok (.getfield 7, 3) := by decide +kernel
theorem dX12_goesTo_7 : decode cX12_goesTo 7 = .ok (.iconst 0, 1) := by decide +kernel
theorem dX12_goesTo_8 : decode cX12_goesTo 8 = .ok (.iaload, 1) := by decide +kernel
theorem dX12_goesTo_9 : decode cX12_goesTo 9 = .ok (.if_icmp .ge 40, 3) := by decide +kernel
theorem dX12_goesTo_12 : decode cX12_goesTo 12 = .ok (.iload_n 2, 1) := by decide +kernel
theorem dX12_goesTo_13 : decode cX12_goesTo 13 = .ok (.iload_n 3, 1) := by decide +kernel
theorem dX12_goesTo_14 : decode cX12_goesTo 14 = .ok (.invokestatic 262, 3) := by decide +kernel
theorem dX12_goesTo_17 : decode cX12_goesTo 17 = .ok (.ifCond .ne 26, 3) := by decide +kernel
theorem dX12_goesTo_20 : decode cX12_goesTo 20 = .ok (.aload_n 0, 1) := by decide +kernel
theorem dX12_goesTo_21 : decode cX12_goesTo 21 = .ok (.iload_n 1, 1) := by decide +kernel
theorem dX12_goesTo_22 : decode cX12_goesTo 22 = .ok (.iload_n 3, 1) := by decide +kernel
theorem dX12_goesTo_23 : decode cX12_goesTo 23 = .ok (.iload_n 2, 1) := by decide +kernel
theorem dX12_goesTo_24 : decode cX12_goesTo 24 = .ok (.invokevirtual 438, 3) := by decide +kernel
theorem dX12_goesTo_27 : decode cX12_goesTo 27 = .ok (.aload_n 0, 1) := by decide +kernel
theorem dX12_goesTo_28 : decode cX12_goesTo 28 = .ok (.getfield 58, 3) := by decide +kernel
theorem dX12_goesTo_31 : decode cX12_goesTo 31 = .ok (.bipush 64, 2) := by decide +kernel
theorem dX12_goesTo_33 : decode cX12_goesTo 33 = .ok (.iload_n 1, 1) := by decide +kernel
theorem dX12_goesTo_34 : decode cX12_goesTo 34 = .ok (.imul, 1) := by decide +kernel
theorem dX12_goesTo_35 : decode cX12_goesTo 35 = .ok (.iload_n 2, 1) := by decide +kernel
theorem dX12_goesTo_36 : decode cX12_goesTo 36 = .ok (.iadd, 1) := by decide +kernel
theorem dX12_goesTo_37 : decode cX12_goesTo 37 = .ok (.iaload, 1) := by decide +kernel
theorem dX12_goesTo_38 : decode cX12_goesTo 38 = .ok (.if_icmp .ne 5, 3) := by decide +kernel
theorem dX12_goesTo_41 : decode cX12_goesTo 41 = .ok (.iload_n 3, 1) := by decide +kernel
theorem dX12_goesTo_42 : decode cX12_goesTo 42 = .ok (.ireturn, 1) := by decide +kernel
theorem dX12_goesTo_43 : decode cX12_goesTo 43 = .ok (.iinc 3 1, 3) := by decide +kernel
theorem dX12_goesTo_46 : decode cX12_goesTo 46 = .ok (.goto (-44), 3) := by decide +kernel
theorem dX12_goesTo_49 : decode cX12_goesTo 49 = .ok (.iconst (-1), 1) := by decide +kernel
theorem dX12_goesTo_50 : decode cX12_goesTo 50 = .ok (.ireturn, 1) := by decide +kernel
set_option maxRecDepth 20000 in
theorem ggX12_matched_X12_isClown : GoodIn wsX12_matched wsX12_isClown := goodIn_r _ [7, 1, 8, 9, 6, 10, 26, 27, 28, 29, 30, 31, 32, 33, 34, 35, 36, 37, 38, 39, 40, 41, 42, 43, 44, 45, 46, 47, 48, 49, 50, 51, 52, 53, 54, 55, 56] rfl (by decide +kernel)
set_option maxRecDepth 20000 in
theorem gX12_matched_X12_isClown : GoodIn wsX12_matched (wsV RX12 354 RX12 yX12_isClown wsX12_isClown) := goodIn_app (goodIn_of _ (by decide +kernel)) ggX12_matched_X12_isClown
set_option maxRecDepth 20000 in
theorem ggX12_matched_X12_layCheap : GoodIn wsX12_matched wsX12_layCheap := goodIn_r _ [14, 2, 1, 15, 16, 6, 17, 18, 19, 20, 21, 26, 27, 28, 29, 30, 31, 32, 33, 34, 35, 36, 37, 38, 39, 40, 41, 42, 43, 44, 45, 46, 47, 48, 49, 50, 51, 52, 53, 54, 55, 56] rfl (by decide +kernel)
set_option maxRecDepth 20000 in
theorem gX12_matched_X12_layCheap : GoodIn wsX12_matched (wsV RX12 441 RX12 yX12_layCheap wsX12_layCheap) := goodIn_app (goodIn_of _ (by decide +kernel)) ggX12_matched_X12_layCheap
set_option maxRecDepth 20000 in
theorem ggX12_matched_X12_goesTo : GoodIn wsX12_matched wsX12_goesTo := goodIn_r _ [25, 1, 2, 15, 16, 6, 17, 18, 19, 20, 21, 26, 27, 28, 29, 30, 31, 32, 33, 34, 35, 36, 37, 38, 39, 40, 41, 42, 43, 44, 45, 46, 47, 48, 49, 50, 51, 52, 53, 54, 55, 56] rfl (by decide +kernel)
set_option maxRecDepth 20000 in
theorem gX12_matched_X12_goesTo : GoodIn wsX12_matched (wsV RX12 444 RX12 yX12_goesTo wsX12_goesTo) := goodIn_app (goodIn_of _ (by decide +kernel)) ggX12_matched_X12_goesTo
theorem dX12_matched_0 : decode cX12_matched 0 = .ok (.iload_n 1, 1) := by decide +kernel
theorem dX12_matched_1 : decode cX12_matched 1 = .ok (.iconst (-1), 1) := by decide +kernel
theorem dX12_matched_2 : decode cX12_matched 2 = .ok (.if_icmp .eq 14, 3) := by decide +kernel
theorem dX12_matched_5 : decode cX12_matched 5 = .ok (.aload_n 0, 1) := by decide +kernel
theorem dX12_matched_6 : decode cX12_matched 6 = .ok (.iload_n 1, 1) := by decide +kernel
theorem dX12_matched_7 : decode cX12_matched 7 = .ok (.invokevirtual 354, 3) := by decide +kernel
theorem dX12_matched_10 : decode cX12_matched 10 = .ok (.ifCond .ne 6, 3) := by decide +kernel
theorem dX12_matched_13 : decode cX12_matched 13 = .ok (.bipush (-2), 2) := by decide +kernel
theorem dX12_matched_15 : decode cX12_matched 15 = .ok (.ireturn, 1) := by decide +kernel
theorem dX12_matched_16 : decode cX12_matched 16 = .ok (.aload_n 0, 1) := by decide +kernel
theorem dX12_matched_17 : decode cX12_matched 17 = .ok (.invokevirtual 441, 3) := by decide +kernel
theorem dX12_matched_20 : decode cX12_matched 20 = .ok (.aload_n 0, 1) := by decide +kernel
theorem dX12_matched_21 : decode cX12_matched 21 = .ok (.getfield 7, 3) := by decide +kernel
theorem dX12_matched_24 : decode cX12_matched 24 = .ok (.iconst 1, 1) := by decide +kernel
theorem dX12_matched_25 : decode cX12_matched 25 = .ok (.iaload, 1) := by decide +kernel
theorem dX12_matched_26 : decode cX12_matched 26 = .ok (.aload_n 0, 1) := by decide +kernel
theorem dX12_matched_27 : decode cX12_matched 27 = .ok (.getfield 7, 3) := by decide +kernel
theorem dX12_matched_30 : decode cX12_matched 30 = .ok (.iconst 0, 1) := by decide +kernel
theorem dX12_matched_31 : decode cX12_matched 31 = .ok (.iaload, 1) := by decide +kernel
theorem dX12_matched_32 : decode cX12_matched 32 = .ok (.if_icmp .ge 12, 3) := by decide +kernel
theorem dX12_matched_35 : decode cX12_matched 35 = .ok (.aload_n 0, 1) := by decide +kernel
theorem dX12_matched_36 : decode cX12_matched 36 = .ok (.getfield 7, 3) := by decide +kernel
theorem dX12_matched_39 : decode cX12_matched 39 = .ok (.iconst 1, 1) := by decide +kernel
theorem dX12_matched_40 : decode cX12_matched 40 = .ok (.iaload, 1) := by decide +kernel
theorem dX12_matched_41 : decode cX12_matched 41 = .ok (.goto 9, 3) := by decide +kernel
theorem dX12_matched_44 : decode cX12_matched 44 = .ok (.aload_n 0, 1) := by decide +kernel
theorem dX12_matched_45 : decode cX12_matched 45 = .ok (.getfield 7, 3) := by decide +kernel
theorem dX12_matched_48 : decode cX12_matched 48 = .ok (.iconst 0, 1) := by decide +kernel
theorem dX12_matched_49 : decode cX12_matched 49 = .ok (.iaload, 1) := by decide +kernel
theorem dX12_matched_50 : decode cX12_matched 50 = .ok (.istore_n 2, 1) := by decide +kernel
theorem dX12_matched_51 : decode cX12_matched 51 = .ok (.iload_n 1, 1) := by decide +kernel
theorem dX12_matched_52 : decode cX12_matched 52 = .ok (.iconst (-1), 1) := by decide +kernel
theorem dX12_matched_53 : decode cX12_matched 53 = .ok (.if_icmp .ne 16, 3) := by decide +kernel
theorem dX12_matched_56 : decode cX12_matched 56 = .ok (.aload_n 0, 1) := by decide +kernel
theorem dX12_matched_57 : decode cX12_matched 57 = .ok (.getfield 58, 3) := by decide +kernel
theorem dX12_matched_60 : decode cX12_matched 60 = .ok (.iconst 0, 1) := by decide +kernel
theorem dX12_matched_61 : decode cX12_matched 61 = .ok (.iaload, 1) := by decide +kernel
theorem dX12_matched_62 : decode cX12_matched 62 = .ok (.sipush 10000, 3) := by decide +kernel
theorem dX12_matched_65 : decode cX12_matched 65 = .ok (.iload_n 2, 1) := by decide +kernel
theorem dX12_matched_66 : decode cX12_matched 66 = .ok (.imul, 1) := by decide +kernel
theorem dX12_matched_67 : decode cX12_matched 67 = .ok (.iadd, 1) := by decide +kernel
theorem dX12_matched_68 : decode cX12_matched 68 = .ok (.ireturn, 1) := by decide +kernel
theorem dX12_matched_69 : decode cX12_matched 69 = .ok (.iconst 0, 1) := by decide +kernel
theorem dX12_matched_70 : decode cX12_matched 70 = .ok (.istore_n 3, 1) := by decide +kernel
theorem dX12_matched_71 : decode cX12_matched 71 = .ok (.iconst (-1), 1) := by decide +kernel
theorem dX12_matched_72 : decode cX12_matched 72 = .ok (.istore 4, 2) := by decide +kernel
theorem dX12_matched_74 : decode cX12_matched 74 = .ok (.iconst 0, 1) := by decide +kernel
theorem dX12_matched_75 : decode cX12_matched 75 = .ok (.istore 5, 2) := by decide +kernel
theorem dX12_matched_77 : decode cX12_matched 77 = .ok (.iload 5, 2) := by decide +kernel
theorem dX12_matched_79 : decode cX12_matched 79 = .ok (.iload_n 1, 1) := by decide +kernel
theorem dX12_matched_80 : decode cX12_matched 80 = .ok (.if_icmp .gt 35, 3) := by decide +kernel
theorem dX12_matched_83 : decode cX12_matched 83 = .ok (.aload_n 0, 1) := by decide +kernel
theorem dX12_matched_84 : decode cX12_matched 84 = .ok (.iload 5, 2) := by decide +kernel
theorem dX12_matched_86 : decode cX12_matched 86 = .ok (.iload_n 3, 1) := by decide +kernel
theorem dX12_matched_87 : decode cX12_matched 87 = .ok (.invokevirtual 444, 3) := by decide +kernel
theorem dX12_matched_90 : decode cX12_matched 90 = .ok (.istore 4, 2) := by decide +kernel
theorem dX12_matched_92 : decode cX12_matched 92 = .ok (.iload_n 3, 1) := by decide +kernel
theorem dX12_matched_93 : decode cX12_matched 93 = .ok (.iload 4, 2) := by decide +kernel
theorem dX12_matched_95 : decode cX12_matched 95 = .ok (.iconst (-1), 1) := by decide +kernel
theorem dX12_matched_96 : decode cX12_matched 96 = .ok (.if_icmp .ne 7, 3) := by decide +kernel
theorem dX12_matched_99 : decode cX12_matched 99 = .ok (.iconst 0, 1) := by decide +kernel
theorem dX12_matched_100 : decode cX12_matched 100 = .ok (.goto 7, 3) := by decide +kernel
theorem dX12_matched_103 : decode cX12_matched 103 = .ok (.iconst 1, 1) := by decide +kernel
theorem dX12_matched_104 : decode cX12_matched 104 = .ok (.iload 4, 2) := by decide +kernel
theorem dX12_matched_106 : decode cX12_matched 106 = .ok (.ishl, 1) := by decide +kernel
theorem dX12_matched_107 : decode cX12_matched 107 = .ok (.ior, 1) := by decide +kernel
theorem dX12_matched_108 : decode cX12_matched 108 = .ok (.istore_n 3, 1) := by decide +kernel
theorem dX12_matched_109 : decode cX12_matched 109 = .ok (.iinc 5 1, 3) := by decide +kernel
theorem dX12_matched_112 : decode cX12_matched 112 = .ok (.goto (-35), 3) := by decide +kernel
theorem dX12_matched_115 : decode cX12_matched 115 = .ok (.iload 4, 2) := by decide +kernel
theorem dX12_matched_117 : decode cX12_matched 117 = .ok (.ireturn, 1) := by decide +kernel
set_option maxRecDepth 20000 in
theorem ggX12_bore_X12_isIn : GoodIn wsX12_bore wsX12_isIn := goodIn_r _ [5] rfl (by decide +kernel)
set_option maxRecDepth 20000 in
theorem gX12_bore_X12_isIn : GoodIn wsX12_bore (va_wsS RX12 68 yX12_isIn wsX12_isIn) := goodIn_app (goodIn_of _ (by decide +kernel)) ggX12_bore_X12_isIn
theorem dX12_bore_0 : decode cX12_bore 0 = .ok (.iload_n 1, 1) := by decide +kernel
theorem dX12_bore_1 : decode cX12_bore 1 = .ok (.iconst (-1), 1) := by decide +kernel
theorem dX12_bore_2 : decode cX12_bore 2 = .ok (.if_icmp .ne 12, 3) := by decide +kernel
theorem dX12_bore_5 : decode cX12_bore 5 = .ok (.aload_n 0, 1) := by decide +kernel
theorem dX12_bore_6 : decode cX12_bore 6 = .ok (.getfield 7, 3) := by decide +kernel
theorem dX12_bore_9 : decode cX12_bore 9 = .ok (.iconst 5, 1) := by decide +kernel
theorem dX12_bore_10 : decode cX12_bore 10 = .ok (.iconst 0, 1) := by decide +kernel
theorem dX12_bore_11 : decode cX12_bore 11 = .ok (.iastore, 1) := by decide +kernel
theorem dX12_bore_12 : decode cX12_bore 12 = .ok (.iconst 0, 1) := by decide +kernel
theorem dX12_bore_13 : decode cX12_bore 13 = .ok (.ireturn, 1) := by decide +kernel
theorem dX12_bore_14 : decode cX12_bore 14 = .ok (.iload_n 1, 1) := by decide +kernel
theorem dX12_bore_15 : decode cX12_bore 15 = .ok (.iconst 0, 1) := by decide +kernel
theorem dX12_bore_16 : decode cX12_bore 16 = .ok (.bipush 99, 2) := by decide +kernel
theorem dX12_bore_18 : decode cX12_bore 18 = .ok (.invokestatic 68, 3) := by decide +kernel
theorem dX12_bore_21 : decode cX12_bore 21 = .ok (.ifCond .eq 14, 3) := by decide +kernel
theorem dX12_bore_24 : decode cX12_bore 24 = .ok (.aload_n 0, 1) := by decide +kernel
theorem dX12_bore_25 : decode cX12_bore 25 = .ok (.getfield 7, 3) := by decide +kernel
theorem dX12_bore_28 : decode cX12_bore 28 = .ok (.iconst 5, 1) := by decide +kernel
theorem dX12_bore_29 : decode cX12_bore 29 = .ok (.iaload, 1) := by decide +kernel
theorem dX12_bore_30 : decode cX12_bore 30 = .ok (.bipush 8, 2) := by decide +kernel
theorem dX12_bore_32 : decode cX12_bore 32 = .ok (.if_icmp .ne 6, 3) := by decide +kernel
theorem dX12_bore_35 : decode cX12_bore 35 = .ok (.bipush (-2), 2) := by decide +kernel
theorem dX12_bore_37 : decode cX12_bore 37 = .ok (.ireturn, 1) := by decide +kernel
theorem dX12_bore_38 : decode cX12_bore 38 = .ok (.aload_n 0, 1) := by decide +kernel
theorem dX12_bore_39 : decode cX12_bore 39 = .ok (.getfield 7, 3) := by decide +kernel
theorem dX12_bore_42 : decode cX12_bore 42 = .ok (.sipush 151, 3) := by decide +kernel
theorem dX12_bore_45 : decode cX12_bore 45 = .ok (.iconst 2, 1) := by decide +kernel
theorem dX12_bore_46 : decode cX12_bore 46 = .ok (.aload_n 0, 1) := by decide +kernel
theorem dX12_bore_47 : decode cX12_bore 47 = .ok (.getfield 7, 3) := by decide +kernel
theorem dX12_bore_50 : decode cX12_bore 50 = .ok (.iconst 5, 1) := by decide +kernel
theorem dX12_bore_51 : decode cX12_bore 51 = .ok (.iaload, 1) := by decide +kernel
theorem dX12_bore_52 : decode cX12_bore 52 = .ok (.imul, 1) := by decide +kernel
theorem dX12_bore_53 : decode cX12_bore 53 = .ok (.iadd, 1) := by decide +kernel
theorem dX12_bore_54 : decode cX12_bore 54 = .ok (.iload_n 1, 1) := by decide +kernel
theorem dX12_bore_55 : decode cX12_bore 55 = .ok (.iastore, 1) := by decide +kernel
theorem dX12_bore_56 : decode cX12_bore 56 = .ok (.aload_n 0, 1) := by decide +kernel
theorem dX12_bore_57 : decode cX12_bore 57 = .ok (.getfield 7, 3) := by decide +kernel
theorem dX12_bore_60 : decode cX12_bore 60 = .ok (.sipush 151, 3) := by decide +kernel
theorem dX12_bore_63 : decode cX12_bore 63 = .ok (.iconst 2, 1) := by decide +kernel
theorem dX12_bore_64 : decode cX12_bore 64 = .ok (.aload_n 0, 1) := by decide +kernel
theorem dX12_bore_65 : decode cX12_bore 65 = .ok (.getfield 7, 3) := by decide +kernel
theorem dX12_bore_68 : decode cX12_bore 68 = .ok (.iconst 5, 1) := by decide +kernel
theorem dX12_bore_69 : decode cX12_bore 69 = .ok (.iaload, 1) := by decide +kernel
theorem dX12_bore_70 : decode cX12_bore 70 = .ok (.imul, 1) := by decide +kernel
theorem dX12_bore_71 : decode cX12_bore 71 = .ok (.iadd, 1) := by decide +kernel
theorem dX12_bore_72 : decode cX12_bore 72 = .ok (.iconst 1, 1) := by decide +kernel
theorem dX12_bore_73 : decode cX12_bore 73 = .ok (.iadd, 1) := by decide +kernel
theorem dX12_bore_74 : decode cX12_bore 74 = .ok (.iload_n 2, 1) := by decide +kernel
theorem dX12_bore_75 : decode cX12_bore 75 = .ok (.ifCond .eq 7, 3) := by decide +kernel
theorem dX12_bore_78 : decode cX12_bore 78 = .ok (.iconst 1, 1) := by decide +kernel
theorem dX12_bore_79 : decode cX12_bore 79 = .ok (.goto 4, 3) := by decide +kernel
theorem dX12_bore_82 : decode cX12_bore 82 = .ok (.iconst 0, 1) := by decide +kernel
theorem dX12_bore_83 : decode cX12_bore 83 = .ok (.iastore, 1) := by decide +kernel
theorem dX12_bore_84 : decode cX12_bore 84 = .ok (.aload_n 0, 1) := by decide +kernel
theorem dX12_bore_85 : decode cX12_bore 85 = .ok (.getfield 7, 3) := by decide +kernel
theorem dX12_bore_88 : decode cX12_bore 88 = .ok (.iconst 5, 1) := by decide +kernel
theorem dX12_bore_89 : decode cX12_bore 89 = .ok (.dup2, 1) := by decide +kernel
theorem dX12_bore_90 : decode cX12_bore 90 = .ok (.iaload, 1) := by decide +kernel
theorem dX12_bore_91 : decode cX12_bore 91 = .ok (.iconst 1, 1) := by decide +kernel
theorem dX12_bore_92 : decode cX12_bore 92 = .ok (.iadd, 1) := by decide +kernel
theorem dX12_bore_93 : decode cX12_bore 93 = .ok (.iastore, 1) := by decide +kernel
theorem dX12_bore_94 : decode cX12_bore 94 = .ok (.aload_n 0, 1) := by decide +kernel
theorem dX12_bore_95 : decode cX12_bore 95 = .ok (.getfield 7, 3) := by decide +kernel
theorem dX12_bore_98 : decode cX12_bore 98 = .ok (.iconst 5, 1) := by decide +kernel
