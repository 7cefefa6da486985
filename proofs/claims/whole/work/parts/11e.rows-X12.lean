theorem dX12_bore_99 : decode cX12_bore 99 = .ok (.iaload, 1) := by decide +kernel
theorem dX12_bore_100 : decode cX12_bore 100 = .ok (.ireturn, 1) := by decide +kernel
theorem dX12_errorsBy_0 : decode cX12_errorsBy 0 = .ok (.iconst 0, 1) := by decide +kernel
theorem dX12_errorsBy_1 : decode cX12_errorsBy 1 = .ok (.istore_n 2, 1) := by decide +kernel
theorem dX12_errorsBy_2 : decode cX12_errorsBy 2 = .ok (.iconst 0, 1) := by decide +kernel
theorem dX12_errorsBy_3 : decode cX12_errorsBy 3 = .ok (.istore_n 3, 1) := by decide +kernel
theorem dX12_errorsBy_4 : decode cX12_errorsBy 4 = .ok (.iload_n 3, 1) := by decide +kernel
theorem dX12_errorsBy_5 : decode cX12_errorsBy 5 = .ok (.aload_n 0, 1) := by decide +kernel
theorem dX12_errorsBy_6 : decode cX12_errorsBy 6 = .ok (.getfield 7, 3) := by decide +kernel
theorem dX12_errorsBy_9 : decode cX12_errorsBy 9 = .ok (.iconst 5, 1) := by decide +kernel
theorem dX12_errorsBy_10 : decode cX12_errorsBy 10 = .ok (.iaload, 1) := by decide +kernel
theorem dX12_errorsBy_11 : decode cX12_errorsBy 11 = .ok (.if_icmp .ge 64, 3) := by decide +kernel
theorem dX12_errorsBy_14 : decode cX12_errorsBy 14 = .ok (.iload_n 2, 1) := by decide +kernel
theorem dX12_errorsBy_15 : decode cX12_errorsBy 15 = .ok (.aload_n 0, 1) := by decide +kernel
theorem dX12_errorsBy_16 : decode cX12_errorsBy 16 = .ok (.getfield 7, 3) := by decide +kernel
theorem dX12_errorsBy_19 : decode cX12_errorsBy 19 = .ok (.sipush 151, 3) := by decide +kernel
theorem dX12_errorsBy_22 : decode cX12_errorsBy 22 = .ok (.iconst 2, 1) := by decide +kernel
theorem dX12_errorsBy_23 : decode cX12_errorsBy 23 = .ok (.iload_n 3, 1) := by decide +kernel
theorem dX12_errorsBy_24 : decode cX12_errorsBy 24 = .ok (.imul, 1) := by decide +kernel
theorem dX12_errorsBy_25 : decode cX12_errorsBy 25 = .ok (.iadd, 1) := by decide +kernel
theorem dX12_errorsBy_26 : decode cX12_errorsBy 26 = .ok (.iaload, 1) := by decide +kernel
theorem dX12_errorsBy_27 : decode cX12_errorsBy 27 = .ok (.iload_n 1, 1) := by decide +kernel
theorem dX12_errorsBy_28 : decode cX12_errorsBy 28 = .ok (.if_icmp .ge 7, 3) := by decide +kernel
theorem dX12_errorsBy_31 : decode cX12_errorsBy 31 = .ok (.iconst 1, 1) := by decide +kernel
theorem dX12_errorsBy_32 : decode cX12_errorsBy 32 = .ok (.goto 4, 3) := by decide +kernel
theorem dX12_errorsBy_35 : decode cX12_errorsBy 35 = .ok (.iconst 0, 1) := by decide +kernel
theorem dX12_errorsBy_36 : decode cX12_errorsBy 36 = .ok (.aload_n 0, 1) := by decide +kernel
theorem dX12_errorsBy_37 : decode cX12_errorsBy 37 = .ok (.getfield 7, 3) := by decide +kernel
theorem dX12_errorsBy_40 : decode cX12_errorsBy 40 = .ok (.sipush 151, 3) := by decide +kernel
theorem dX12_errorsBy_43 : decode cX12_errorsBy 43 = .ok (.iconst 2, 1) := by decide +kernel
theorem dX12_errorsBy_44 : decode cX12_errorsBy 44 = .ok (.iload_n 3, 1) := by decide +kernel
theorem dX12_errorsBy_45 : decode cX12_errorsBy 45 = .ok (.imul, 1) := by decide +kernel
theorem dX12_errorsBy_46 : decode cX12_errorsBy 46 = .ok (.iadd, 1) := by decide +kernel
theorem dX12_errorsBy_47 : decode cX12_errorsBy 47 = .ok (.iconst 1, 1) := by decide +kernel
theorem dX12_errorsBy_48 : decode cX12_errorsBy 48 = .ok (.iadd, 1) := by decide +kernel
theorem dX12_errorsBy_49 : decode cX12_errorsBy 49 = .ok (.iaload, 1) := by decide +kernel
theorem dX12_errorsBy_50 : decode cX12_errorsBy 50 = .ok (.iconst 1, 1) := by decide +kernel
theorem dX12_errorsBy_51 : decode cX12_errorsBy 51 = .ok (.if_icmp .ne 7, 3) := by decide +kernel
theorem dX12_errorsBy_54 : decode cX12_errorsBy 54 = .ok (.iconst 1, 1) := by decide +kernel
theorem dX12_errorsBy_55 : decode cX12_errorsBy 55 = .ok (.goto 4, 3) := by decide +kernel
theorem dX12_errorsBy_58 : decode cX12_errorsBy 58 = .ok (.iconst 0, 1) := by decide +kernel
theorem dX12_errorsBy_59 : decode cX12_errorsBy 59 = .ok (.if_icmp .eq 7, 3) := by decide +kernel
theorem dX12_errorsBy_62 : decode cX12_errorsBy 62 = .ok (.iconst 1, 1) := by decide +kernel
theorem dX12_errorsBy_63 : decode cX12_errorsBy 63 = .ok (.goto 4, 3) := by decide +kernel
theorem dX12_errorsBy_66 : decode cX12_errorsBy 66 = .ok (.iconst 0, 1) := by decide +kernel
theorem dX12_errorsBy_67 : decode cX12_errorsBy 67 = .ok (.iadd, 1) := by decide +kernel
theorem dX12_errorsBy_68 : decode cX12_errorsBy 68 = .ok (.istore_n 2, 1) := by decide +kernel
theorem dX12_errorsBy_69 : decode cX12_errorsBy 69 = .ok (.iinc 3 1, 3) := by decide +kernel
theorem dX12_errorsBy_72 : decode cX12_errorsBy 72 = .ok (.goto (-68), 3) := by decide +kernel
theorem dX12_errorsBy_75 : decode cX12_errorsBy 75 = .ok (.iload_n 2, 1) := by decide +kernel
theorem dX12_errorsBy_76 : decode cX12_errorsBy 76 = .ok (.ireturn, 1) := by decide +kernel
set_option maxRecDepth 20000 in
theorem ggX12_leastErrors_X12_errorsBy : GoodIn wsX12_leastErrors wsX12_errorsBy := goodIn_r _ [5, 6, 7, 8, 9, 10, 11, 12, 13, 14, 15, 16, 17, 18, 19, 20, 21, 22, 23, 24, 25, 26, 27, 28, 29, 30, 31, 32, 33, 34, 35, 36, 37] rfl (by decide +kernel)
set_option maxRecDepth 20000 in
theorem gX12_leastErrors_X12_errorsBy : GoodIn wsX12_leastErrors (wsV RX12 447 RX12 yX12_errorsBy wsX12_errorsBy) := goodIn_app (goodIn_of _ (by decide +kernel)) ggX12_leastErrors_X12_errorsBy
theorem dX12_leastErrors_0 : decode cX12_leastErrors 0 = .ok (.aload_n 0, 1) := by decide +kernel
theorem dX12_leastErrors_1 : decode cX12_leastErrors 1 = .ok (.iconst 0, 1) := by decide +kernel
theorem dX12_leastErrors_2 : decode cX12_leastErrors 2 = .ok (.invokevirtual 447, 3) := by decide +kernel
theorem dX12_leastErrors_5 : decode cX12_leastErrors 5 = .ok (.istore_n 1, 1) := by decide +kernel
theorem dX12_leastErrors_6 : decode cX12_leastErrors 6 = .ok (.iconst 1, 1) := by decide +kernel
theorem dX12_leastErrors_7 : decode cX12_leastErrors 7 = .ok (.istore_n 2, 1) := by decide +kernel
theorem dX12_leastErrors_8 : decode cX12_leastErrors 8 = .ok (.iload_n 2, 1) := by decide +kernel
theorem dX12_leastErrors_9 : decode cX12_leastErrors 9 = .ok (.bipush 100, 2) := by decide +kernel
theorem dX12_leastErrors_11 : decode cX12_leastErrors 11 = .ok (.if_icmp .gt 24, 3) := by decide +kernel
theorem dX12_leastErrors_14 : decode cX12_leastErrors 14 = .ok (.aload_n 0, 1) := by decide +kernel
theorem dX12_leastErrors_15 : decode cX12_leastErrors 15 = .ok (.iload_n 2, 1) := by decide +kernel
theorem dX12_leastErrors_16 : decode cX12_leastErrors 16 = .ok (.invokevirtual 447, 3) := by decide +kernel
theorem dX12_leastErrors_19 : decode cX12_leastErrors 19 = .ok (.iload_n 1, 1) := by decide +kernel
theorem dX12_leastErrors_20 : decode cX12_leastErrors 20 = .ok (.if_icmp .ge 9, 3) := by decide +kernel
theorem dX12_leastErrors_23 : decode cX12_leastErrors 23 = .ok (.aload_n 0, 1) := by decide +kernel
theorem dX12_leastErrors_24 : decode cX12_leastErrors 24 = .ok (.iload_n 2, 1) := by decide +kernel
theorem dX12_leastErrors_25 : decode cX12_leastErrors 25 = .ok (.invokevirtual 447, 3) := by decide +kernel
theorem dX12_leastErrors_28 : decode cX12_leastErrors 28 = .ok (.istore_n 1, 1) := by decide +kernel
theorem dX12_leastErrors_29 : decode cX12_leastErrors 29 = .ok (.iinc 2 1, 3) := by decide +kernel
theorem dX12_leastErrors_32 : decode cX12_leastErrors 32 = .ok (.goto (-24), 3) := by decide +kernel
theorem dX12_leastErrors_35 : decode cX12_leastErrors 35 = .ok (.iload_n 1, 1) := by decide +kernel
theorem dX12_leastErrors_36 : decode cX12_leastErrors 36 = .ok (.ireturn, 1) := by decide +kernel
set_option maxRecDepth 20000 in
theorem ggX12_bears_X12_isIn : GoodIn wsX12_bears wsX12_isIn := goodIn_r _ [4] rfl (by decide +kernel)
set_option maxRecDepth 20000 in
theorem gX12_bears_X12_isIn : GoodIn wsX12_bears (va_wsS RX12 68 yX12_isIn wsX12_isIn) := goodIn_app (goodIn_of _ (by decide +kernel)) ggX12_bears_X12_isIn
set_option maxRecDepth 20000 in
theorem ggX12_bears_X12_leastErrors : GoodIn wsX12_bears wsX12_leastErrors := goodIn_r _ [8, 9, 10, 11, 3, 12, 13, 14, 15, 16, 17, 18, 19, 20, 21, 22, 23, 24, 25, 26, 27, 28, 29, 30, 31, 32, 33, 34, 35, 36, 37, 38, 39, 40, 41, 42, 43, 44] rfl (by decide +kernel)
set_option maxRecDepth 20000 in
theorem gX12_bears_X12_leastErrors : GoodIn wsX12_bears (wsV RX12 450 RX12 yX12_leastErrors wsX12_leastErrors) := goodIn_app (goodIn_of _ (by decide +kernel)) ggX12_bears_X12_leastErrors
set_option maxRecDepth 20000 in
theorem ggX12_bears_X12_errorsBy : GoodIn wsX12_bears wsX12_errorsBy := goodIn_r _ [12, 13, 14, 15, 16, 17, 18, 19, 20, 21, 22, 23, 24, 25, 26, 27, 28, 29, 30, 31, 32, 33, 34, 35, 36, 37, 38, 39, 40, 41, 42, 43, 44] rfl (by decide +kernel)
set_option maxRecDepth 20000 in
theorem gX12_bears_X12_errorsBy : GoodIn wsX12_bears (wsV RX12 447 RX12 yX12_errorsBy wsX12_errorsBy) := goodIn_app (goodIn_of _ (by decide +kernel)) ggX12_bears_X12_errorsBy
theorem dX12_bears_0 : decode cX12_bears 0 = .ok (.iload_n 1, 1) := by decide +kernel
theorem dX12_bears_1 : decode cX12_bears 1 = .ok (.iconst 0, 1) := by decide +kernel
theorem dX12_bears_2 : decode cX12_bears 2 = .ok (.iconst 2, 1) := by decide +kernel
theorem dX12_bears_3 : decode cX12_bears 3 = .ok (.invokestatic 68, 3) := by decide +kernel
theorem dX12_bears_6 : decode cX12_bears 6 = .ok (.ifCond .ne 6, 3) := by decide +kernel
theorem dX12_bears_9 : decode cX12_bears 9 = .ok (.bipush (-2), 2) := by decide +kernel
theorem dX12_bears_11 : decode cX12_bears 11 = .ok (.ireturn, 1) := by decide +kernel
theorem dX12_bears_12 : decode cX12_bears 12 = .ok (.aload_n 0, 1) := by decide +kernel
theorem dX12_bears_13 : decode cX12_bears 13 = .ok (.invokevirtual 450, 3) := by decide +kernel
theorem dX12_bears_16 : decode cX12_bears 16 = .ok (.istore_n 2, 1) := by decide +kernel
theorem dX12_bears_17 : decode cX12_bears 17 = .ok (.iconst (-1), 1) := by decide +kernel
theorem dX12_bears_18 : decode cX12_bears 18 = .ok (.istore_n 3, 1) := by decide +kernel
theorem dX12_bears_19 : decode cX12_bears 19 = .ok (.iconst (-1), 1) := by decide +kernel
theorem dX12_bears_20 : decode cX12_bears 20 = .ok (.istore 4, 2) := by decide +kernel
theorem dX12_bears_22 : decode cX12_bears 22 = .ok (.iconst 0, 1) := by decide +kernel
theorem dX12_bears_23 : decode cX12_bears 23 = .ok (.istore 5, 2) := by decide +kernel
theorem dX12_bears_25 : decode cX12_bears 25 = .ok (.iload 5, 2) := by decide +kernel
theorem dX12_bears_27 : decode cX12_bears 27 = .ok (.bipush 100, 2) := by decide +kernel
theorem dX12_bears_29 : decode cX12_bears 29 = .ok (.if_icmp .gt 38, 3) := by decide +kernel
theorem dX12_bears_32 : decode cX12_bears 32 = .ok (.aload_n 0, 1) := by decide +kernel
theorem dX12_bears_33 : decode cX12_bears 33 = .ok (.iload 5, 2) := by decide +kernel
theorem dX12_bears_35 : decode cX12_bears 35 = .ok (.invokevirtual 447, 3) := by decide +kernel
theorem dX12_bears_38 : decode cX12_bears 38 = .ok (.iload_n 2, 1) := by decide +kernel
theorem dX12_bears_39 : decode cX12_bears 39 = .ok (.if_icmp .eq 6, 3) := by decide +kernel
theorem dX12_bears_42 : decode cX12_bears 42 = .ok (.goto 19, 3) := by decide +kernel
theorem dX12_bears_45 : decode cX12_bears 45 = .ok (.iload_n 3, 1) := by decide +kernel
theorem dX12_bears_46 : decode cX12_bears 46 = .ok (.iconst (-1), 1) := by decide +kernel
theorem dX12_bears_47 : decode cX12_bears 47 = .ok (.if_icmp .ne 8, 3) := by decide +kernel
theorem dX12_bears_50 : decode cX12_bears 50 = .ok (.iload 5, 2) := by decide +kernel
theorem dX12_bears_52 : decode cX12_bears 52 = .ok (.goto 4, 3) := by decide +kernel
theorem dX12_bears_55 : decode cX12_bears 55 = .ok (.iload_n 3, 1) := by decide +kernel
theorem dX12_bears_56 : decode cX12_bears 56 = .ok (.istore_n 3, 1) := by decide +kernel
theorem dX12_bears_57 : decode cX12_bears 57 = .ok (.iload 5, 2) := by decide +kernel
theorem dX12_bears_59 : decode cX12_bears 59 = .ok (.istore 4, 2) := by decide +kernel
theorem dX12_bears_61 : decode cX12_bears 61 = .ok (.iinc 5 1, 3) := by decide +kernel
theorem dX12_bears_64 : decode cX12_bears 64 = .ok (.goto (-39), 3) := by decide +kernel
theorem dX12_bears_67 : decode cX12_bears 67 = .ok (.iload_n 1, 1) := by decide +kernel
theorem dX12_bears_68 : decode cX12_bears 68 = .ok (.ifCond .ne 7, 3) := by decide +kernel
theorem dX12_bears_71 : decode cX12_bears 71 = .ok (.iload_n 2, 1) := by decide +kernel
theorem dX12_bears_72 : decode cX12_bears 72 = .ok (.goto 14, 3) := by decide +kernel
theorem dX12_bears_75 : decode cX12_bears 75 = .ok (.iload_n 1, 1) := by decide +kernel
theorem dX12_bears_76 : decode cX12_bears 76 = .ok (.iconst 1, 1) := by decide +kernel
theorem dX12_bears_77 : decode cX12_bears 77 = .ok (.if_icmp .ne 7, 3) := by decide +kernel
theorem dX12_bears_80 : decode cX12_bears 80 = .ok (.iload_n 3, 1) := by decide +kernel
theorem dX12_bears_81 : decode cX12_bears 81 = .ok (.goto 5, 3) := by decide +kernel
theorem dX12_bears_84 : decode cX12_bears 84 = .ok (.iload 4, 2) := by decide +kernel
theorem dX12_bears_86 : decode cX12_bears 86 = .ok (.ireturn, 1) := by decide +kernel
set_option maxRecDepth 20000 in
theorem ggX12_next_X12_isIn : GoodIn wsX12_next wsX12_isIn := goodIn_r _ [5] rfl (by decide +kernel)
set_option maxRecDepth 20000 in
theorem gX12_next_X12_isIn : GoodIn wsX12_next (va_wsS RX12 68 yX12_isIn wsX12_isIn) := goodIn_app (goodIn_of _ (by decide +kernel)) ggX12_next_X12_isIn
set_option maxRecDepth 20000 in
theorem ggX12_next_X12_leastErrors : GoodIn wsX12_next wsX12_leastErrors := goodIn_r _ [9, 10, 11, 12, 4, 13, 14, 15, 16, 17, 18, 19, 20, 21, 22, 23, 24, 25, 26, 27, 28, 29, 30, 31, 32, 33, 34, 35, 36, 37, 38, 39, 40, 41, 42, 43, 44, 45] rfl (by decide +kernel)
set_option maxRecDepth 20000 in
theorem gX12_next_X12_leastErrors : GoodIn wsX12_next (wsV RX12 450 RX12 yX12_leastErrors wsX12_leastErrors) := goodIn_app (goodIn_of _ (by decide +kernel)) ggX12_next_X12_leastErrors
set_option maxRecDepth 20000 in
theorem ggX12_next_X12_errorsBy : GoodIn wsX12_next wsX12_errorsBy := goodIn_r _ [13, 14, 15, 16, 17, 18, 19, 20, 21, 22, 23, 24, 25, 26, 27, 28, 29, 30, 31, 32, 33, 34, 35, 36, 37, 38, 39, 40, 41, 42, 43, 44, 45] rfl (by decide +kernel)
set_option maxRecDepth 20000 in
theorem gX12_next_X12_errorsBy : GoodIn wsX12_next (wsV RX12 447 RX12 yX12_errorsBy wsX12_errorsBy) := goodIn_app (goodIn_of _ (by decide +kernel)) ggX12_next_X12_errorsBy
theorem dX12_next_0 : decode cX12_next 0 = .ok (.iload_n 1, 1) := by decide +kernel
theorem dX12_next_1 : decode cX12_next 1 = .ok (.iconst 0, 1) := by decide +kernel
theorem dX12_next_2 : decode cX12_next 2 = .ok (.bipush 99, 2) := by decide +kernel
theorem dX12_next_4 : decode cX12_next 4 = .ok (.invokestatic 68, 3) := by decide +kernel
theorem dX12_next_7 : decode cX12_next 7 = .ok (.ifCond .ne 5, 3) := by decide +kernel
theorem dX12_next_10 : decode cX12_next 10 = .ok (.iconst (-1), 1) := by decide +kernel
theorem dX12_next_11 : decode cX12_next 11 = .ok (.ireturn, 1) := by decide +kernel
theorem dX12_next_12 : decode cX12_next 12 = .ok (.aload_n 0, 1) := by decide +kernel
theorem dX12_next_13 : decode cX12_next 13 = .ok (.invokevirtual 450, 3) := by decide +kernel
theorem dX12_next_16 : decode cX12_next 16 = .ok (.istore_n 2, 1) := by decide +kernel
theorem dX12_next_17 : decode cX12_next 17 = .ok (.iconst 0, 1) := by decide +kernel
theorem dX12_next_18 : decode cX12_next 18 = .ok (.istore_n 3, 1) := by decide +kernel
theorem dX12_next_19 : decode cX12_next 19 = .ok (.iconst 0, 1) := by decide +kernel
theorem dX12_next_20 : decode cX12_next 20 = .ok (.istore 4, 2) := by decide +kernel
theorem dX12_next_22 : decode cX12_next 22 = .ok (.iload 4, 2) := by decide +kernel
theorem dX12_next_24 : decode cX12_next 24 = .ok (.bipush 100, 2) := by decide +kernel
theorem dX12_next_26 : decode cX12_next 26 = .ok (.if_icmp .gt 27, 3) := by decide +kernel
theorem dX12_next_29 : decode cX12_next 29 = .ok (.iload_n 3, 1) := by decide +kernel
theorem dX12_next_30 : decode cX12_next 30 = .ok (.aload_n 0, 1) := by decide +kernel
theorem dX12_next_31 : decode cX12_next 31 = .ok (.iload 4, 2) := by decide +kernel
theorem dX12_next_33 : decode cX12_next 33 = .ok (.invokevirtual 447, 3) := by decide +kernel
theorem dX12_next_36 : decode cX12_next 36 = .ok (.iload_n 2, 1) := by decide +kernel
theorem dX12_next_37 : decode cX12_next 37 = .ok (.if_icmp .ne 7, 3) := by decide +kernel
theorem dX12_next_40 : decode cX12_next 40 = .ok (.iconst 1, 1) := by decide +kernel
theorem dX12_next_41 : decode cX12_next 41 = .ok (.goto 4, 3) := by decide +kernel
theorem dX12_next_44 : decode cX12_next 44 = .ok (.iconst 0, 1) := by decide +kernel
theorem dX12_next_45 : decode cX12_next 45 = .ok (.iadd, 1) := by decide +kernel
theorem dX12_next_46 : decode cX12_next 46 = .ok (.istore_n 3, 1) := by decide +kernel
theorem dX12_next_47 : decode cX12_next 47 = .ok (.iinc 4 1, 3) := by decide +kernel
theorem dX12_next_50 : decode cX12_next 50 = .ok (.goto (-28), 3) := by decide +kernel
theorem dX12_next_53 : decode cX12_next 53 = .ok (.iconst (-1), 1) := by decide +kernel
theorem dX12_next_54 : decode cX12_next 54 = .ok (.istore 4, 2) := by decide +kernel
theorem dX12_next_56 : decode cX12_next 56 = .ok (.ldc_w 453, 3) := by decide +kernel
theorem dX12_next_59 : decode cX12_next 59 = .ok (.istore 5, 2) := by decide +kernel
theorem dX12_next_61 : decode cX12_next 61 = .ok (.iload_n 3, 1) := by decide +kernel
theorem dX12_next_62 : decode cX12_next 62 = .ok (.istore 6, 2) := by decide +kernel
theorem dX12_next_64 : decode cX12_next 64 = .ok (.iconst 0, 1) := by decide +kernel
theorem dX12_next_65 : decode cX12_next 65 = .ok (.istore 7, 2) := by decide +kernel
theorem dX12_next_67 : decode cX12_next 67 = .ok (.iload 7, 2) := by decide +kernel
theorem dX12_next_69 : decode cX12_next 69 = .ok (.iload_n 1, 1) := by decide +kernel
theorem dX12_next_70 : decode cX12_next 70 = .ok (.if_icmp .gt 83, 3) := by decide +kernel
theorem dX12_next_73 : decode cX12_next 73 = .ok (.iload 6, 2) := by decide +kernel
theorem dX12_next_75 : decode cX12_next 75 = .ok (.aload_n 0, 1) := by decide +kernel
theorem dX12_next_76 : decode cX12_next 76 = .ok (.iload 7, 2) := by decide +kernel
theorem dX12_next_78 : decode cX12_next 78 = .ok (.invokevirtual 447, 3) := by decide +kernel
theorem dX12_next_81 : decode cX12_next 81 = .ok (.iload_n 2, 1) := by decide +kernel
theorem dX12_next_82 : decode cX12_next 82 = .ok (.if_icmp .ne 7, 3) := by decide +kernel
theorem dX12_next_85 : decode cX12_next 85 = .ok (.iconst 1, 1) := by decide +kernel
theorem dX12_next_86 : decode cX12_next 86 = .ok (.goto 4, 3) := by decide +kernel
theorem dX12_next_89 : decode cX12_next 89 = .ok (.iconst 0, 1) := by decide +kernel
theorem dX12_next_90 : decode cX12_next 90 = .ok (.isub, 1) := by decide +kernel
theorem dX12_next_91 : decode cX12_next 91 = .ok (.istore 6, 2) := by decide +kernel
theorem dX12_next_93 : decode cX12_next 93 = .ok (.iconst 2, 1) := by decide +kernel
theorem dX12_next_94 : decode cX12_next 94 = .ok (.iload 6, 2) := by decide +kernel
theorem dX12_next_96 : decode cX12_next 96 = .ok (.imul, 1) := by decide +kernel
theorem dX12_next_97 : decode cX12_next 97 = .ok (.iload_n 3, 1) := by decide +kernel
theorem dX12_next_98 : decode cX12_next 98 = .ok (.if_icmp .le 12, 3) := by decide +kernel
theorem dX12_next_101 : decode cX12_next 101 = .ok (.iconst 2, 1) := by decide +kernel
theorem dX12_next_102 : decode cX12_next 102 = .ok (.iload 6, 2) := by decide +kernel
theorem dX12_next_104 : decode cX12_next 104 = .ok (.imul, 1) := by decide +kernel
theorem dX12_next_105 : decode cX12_next 105 = .ok (.iload_n 3, 1) := by decide +kernel
theorem dX12_next_106 : decode cX12_next 106 = .ok (.isub, 1) := by decide +kernel
theorem dX12_next_107 : decode cX12_next 107 = .ok (.goto 9, 3) := by decide +kernel
theorem dX12_next_110 : decode cX12_next 110 = .ok (.iload_n 3, 1) := by decide +kernel
theorem dX12_next_111 : decode cX12_next 111 = .ok (.iconst 2, 1) := by decide +kernel
theorem dX12_next_112 : decode cX12_next 112 = .ok (.iload 6, 2) := by decide +kernel
theorem dX12_next_114 : decode cX12_next 114 = .ok (.imul, 1) := by decide +kernel
theorem dX12_next_115 : decode cX12_next 115 = .ok (.isub, 1) := by decide +kernel
theorem dX12_next_116 : decode cX12_next 116 = .ok (.istore 8, 2) := by decide +kernel
theorem dX12_next_118 : decode cX12_next 118 = .ok (.iload 6, 2) := by decide +kernel
theorem dX12_next_120 : decode cX12_next 120 = .ok (.ifCond .eq 27, 3) := by decide +kernel
theorem dX12_next_123 : decode cX12_next 123 = .ok (.iload 6, 2) := by decide +kernel
theorem dX12_next_125 : decode cX12_next 125 = .ok (.iload_n 3, 1) := by decide +kernel
theorem dX12_next_126 : decode cX12_next 126 = .ok (.if_icmp .eq 21, 3) := by decide +kernel
theorem dX12_next_129 : decode cX12_next 129 = .ok (.iload 8, 2) := by decide +kernel
theorem dX12_next_131 : decode cX12_next 131 = .ok (.iload 5, 2) := by decide +kernel
theorem dX12_next_133 : decode cX12_next 133 = .ok (.if_icmp .lt 6, 3) := by decide +kernel
theorem dX12_next_136 : decode cX12_next 136 = .ok (.goto 11, 3) := by decide +kernel
theorem dX12_next_139 : decode cX12_next 139 = .ok (.iload 8, 2) := by decide +kernel
theorem dX12_next_141 : decode cX12_next 141 = .ok (.istore 5, 2) := by decide +kernel
theorem dX12_next_143 : decode cX12_next 143 = .ok (.iload 7, 2) := by decide +kernel
theorem dX12_next_145 : decode cX12_next 145 = .ok (.istore 4, 2) := by decide +kernel
theorem dX12_next_147 : decode cX12_next 147 = .ok (.iinc 7 1, 3) := by decide +kernel
theorem dX12_next_150 : decode cX12_next 150 = .ok (.goto (-83), 3) := by decide +kernel
theorem dX12_next_153 : decode cX12_next 153 = .ok (.iload 4, 2) := by decide +kernel
theorem dX12_next_155 : decode cX12_next 155 = .ok (.ireturn, 1) := by decide +kernel
theorem dX12_common_0 : decode cX12_common 0 = .ok (.lload_n 0, 1) := by decide +kernel
theorem dX12_common_1 : decode cX12_common 1 = .ok (.lconst 0, 1) := by decide +kernel
theorem dX12_common_2 : decode cX12_common 2 = .ok (.lcmp, 1) := by decide +kernel
theorem dX12_common_3 : decode cX12_common 3 = .ok (.ifCond .ge 8, 3) := by decide +kernel
theorem dX12_common_6 : decode cX12_common 6 = .ok (.lload_n 0, 1) := by decide +kernel
theorem dX12_common_7 : decode cX12_common 7 = .ok (.lneg, 1) := by decide +kernel
theorem dX12_common_8 : decode cX12_common 8 = .ok (.goto 4, 3) := by decide +kernel
theorem dX12_common_11 : decode cX12_common 11 = .ok (.lload_n 0, 1) := by decide +kernel
theorem dX12_common_12 : decode cX12_common 12 = .ok (.lstore 4, 2) := by decide +kernel
theorem dX12_common_14 : decode cX12_common 14 = .ok (.lload_n 2, 1) := by decide +kernel
theorem dX12_common_15 : decode cX12_common 15 = .ok (.lstore 6, 2) := by decide +kernel
theorem dX12_common_17 : decode cX12_common 17 = .ok (.lload 6, 2) := by decide +kernel
theorem dX12_common_19 : decode cX12_common 19 = .ok (.lconst 0, 1) := by decide +kernel
theorem dX12_common_20 : decode cX12_common 20 = .ok (.lcmp, 1) := by decide +kernel
theorem dX12_common_21 : decode cX12_common 21 = .ok (.ifCond .eq 21, 3) := by decide +kernel
theorem dX12_common_24 : decode cX12_common 24 = .ok (.lload 4, 2) := by decide +kernel
theorem dX12_common_26 : decode cX12_common 26 = .ok (.lload 6, 2) := by decide +kernel
theorem dX12_common_28 : decode cX12_common 28 = .ok (.lrem, 1) := by decide +kernel
theorem dX12_common_29 : decode cX12_common 29 = .ok (.lstore 8, 2) := by decide +kernel
theorem dX12_common_31 : decode cX12_common 31 = .ok (.lload 6, 2) := by decide +kernel
theorem dX12_common_33 : decode cX12_common 33 = .ok (.lstore 4, 2) := by decide +kernel
theorem dX12_common_35 : decode cX12_common 35 = .ok (.lload 8, 2) := by decide +kernel
theorem dX12_common_37 : decode cX12_common 37 = .ok (.lstore 6, 2) := by decide +kernel
theorem dX12_common_39 : decode cX12_common 39 = .ok (.goto (-22), 3) := by decide +kernel
theorem dX12_common_42 : decode cX12_common 42 = .ok (.lload 4, 2) := by decide +kernel
theorem dX12_common_44 : decode cX12_common 44 = .ok (.lreturn, 1) := by decide +kernel
theorem dX12_orders_0 : decode cX12_orders 0 = .ok (.iconst 1, 1) := by decide +kernel
theorem dX12_orders_1 : decode cX12_orders 1 = .ok (.istore_n 1, 1) := by decide +kernel
theorem dX12_orders_2 : decode cX12_orders 2 = .ok (.iconst 2, 1) := by decide +kernel
theorem dX12_orders_3 : decode cX12_orders 3 = .ok (.istore_n 2, 1) := by decide +kernel
theorem dX12_orders_4 : decode cX12_orders 4 = .ok (.iload_n 2, 1) := by decide +kernel
theorem dX12_orders_5 : decode cX12_orders 5 = .ok (.iload_n 0, 1) := by decide +kernel
theorem dX12_orders_6 : decode cX12_orders 6 = .ok (.if_icmp .gt 13, 3) := by decide +kernel
theorem dX12_orders_9 : decode cX12_orders 9 = .ok (.iload_n 1, 1) := by decide +kernel
theorem dX12_orders_10 : decode cX12_orders 10 = .ok (.iload_n 2, 1) := by decide +kernel
theorem dX12_orders_11 : decode cX12_orders 11 = .ok (.imul, 1) := by decide +kernel
theorem dX12_orders_12 : decode cX12_orders 12 = .ok (.istore_n 1, 1) := by decide +kernel
theorem dX12_orders_13 : decode cX12_orders 13 = .ok (.iinc 2 1, 3) := by decide +kernel
theorem dX12_orders_16 : decode cX12_orders 16 = .ok (.goto (-12), 3) := by decide +kernel
theorem dX12_orders_19 : decode cX12_orders 19 = .ok (.iload_n 1, 1) := by decide +kernel
theorem dX12_orders_20 : decode cX12_orders 20 = .ok (.ireturn, 1) := by decide +kernel
set_option maxRecDepth 20000 in
theorem ggX12_worth_X12_isIn : GoodIn wsX12_worth wsX12_isIn := goodIn_r _ [5] rfl (by decide +kernel)
set_option maxRecDepth 20000 in
theorem gX12_worth_X12_isIn : GoodIn wsX12_worth (va_wsS RX12 68 yX12_isIn wsX12_isIn) := goodIn_app (goodIn_of _ (by decide +kernel)) ggX12_worth_X12_isIn
theorem dX12_worth_0 : decode cX12_worth 0 = .ok (.iload_n 1, 1) := by decide +kernel
theorem dX12_worth_1 : decode cX12_worth 1 = .ok (.iconst 1, 1) := by decide +kernel
theorem dX12_worth_2 : decode cX12_worth 2 = .ok (.bipush 15, 2) := by decide +kernel
theorem dX12_worth_4 : decode cX12_worth 4 = .ok (.invokestatic 68, 3) := by decide +kernel
theorem dX12_worth_7 : decode cX12_worth 7 = .ok (.ifCond .eq 14, 3) := by decide +kernel
theorem dX12_worth_10 : decode cX12_worth 10 = .ok (.iload_n 2, 1) := by decide +kernel
theorem dX12_worth_11 : decode cX12_worth 11 = .ok (.iconst 0, 1) := by decide +kernel
theorem dX12_worth_12 : decode cX12_worth 12 = .ok (.sipush 999, 3) := by decide +kernel
theorem dX12_worth_15 : decode cX12_worth 15 = .ok (.invokestatic 68, 3) := by decide +kernel
theorem dX12_worth_18 : decode cX12_worth 18 = .ok (.ifCond .ne 5, 3) := by decide +kernel
theorem dX12_worth_21 : decode cX12_worth 21 = .ok (.iconst 0, 1) := by decide +kernel
theorem dX12_worth_22 : decode cX12_worth 22 = .ok (.ireturn, 1) := by decide +kernel
theorem dX12_worth_23 : decode cX12_worth 23 = .ok (.aload_n 0, 1) := by decide +kernel
theorem dX12_worth_24 : decode cX12_worth 24 = .ok (.getfield 7, 3) := by decide +kernel
theorem dX12_worth_27 : decode cX12_worth 27 = .ok (.sipush 167, 3) := by decide +kernel
theorem dX12_worth_30 : decode cX12_worth 30 = .ok (.iload_n 1, 1) := by decide +kernel
theorem dX12_worth_31 : decode cX12_worth 31 = .ok (.iadd, 1) := by decide +kernel
theorem dX12_worth_32 : decode cX12_worth 32 = .ok (.iload_n 2, 1) := by decide +kernel
theorem dX12_worth_33 : decode cX12_worth 33 = .ok (.iastore, 1) := by decide +kernel
theorem dX12_worth_34 : decode cX12_worth 34 = .ok (.iconst 1, 1) := by decide +kernel
theorem dX12_worth_35 : decode cX12_worth 35 = .ok (.ireturn, 1) := by decide +kernel
set_option maxRecDepth 20000 in
theorem ggX12_share_X12_isIn : GoodIn wsX12_share wsX12_isIn := goodIn_r _ [5] rfl (by decide +kernel)
set_option maxRecDepth 20000 in
theorem gX12_share_X12_isIn : GoodIn wsX12_share (va_wsS RX12 68 yX12_isIn wsX12_isIn) := goodIn_app (goodIn_of _ (by decide +kernel)) ggX12_share_X12_isIn
set_option maxRecDepth 20000 in
theorem ggX12_share_X12_has : GoodIn wsX12_share wsX12_has := goodIn_r _ [8] rfl (by decide +kernel)
set_option maxRecDepth 20000 in
theorem gX12_share_X12_has : GoodIn wsX12_share (va_wsS RX12 262 yX12_has wsX12_has) := goodIn_app (goodIn_of _ (by decide +kernel)) ggX12_share_X12_has
set_option maxRecDepth 20000 in
theorem ggX12_share_X12_bits : GoodIn wsX12_share wsX12_bits := goodIn_r _ [11] rfl (by decide +kernel)
set_option maxRecDepth 20000 in
theorem gX12_share_X12_bits : GoodIn wsX12_share (va_wsS RX12 321 yX12_bits wsX12_bits) := goodIn_app (goodIn_of _ (by decide +kernel)) ggX12_share_X12_bits
set_option maxRecDepth 20000 in
theorem ggX12_share_X12_orders : GoodIn wsX12_share wsX12_orders := goodIn_r _ [14] rfl (by decide +kernel)
set_option maxRecDepth 20000 in
theorem gX12_share_X12_orders : GoodIn wsX12_share (va_wsS RX12 454 yX12_orders wsX12_orders) := goodIn_app (goodIn_of _ (by decide +kernel)) ggX12_share_X12_orders
set_option maxRecDepth 20000 in
theorem ggX12_share_X12_common : GoodIn wsX12_share wsX12_common := goodIn_r _ [17] rfl (by decide +kernel)
set_option maxRecDepth 20000 in
theorem gX12_share_X12_common : GoodIn wsX12_share (va_wsS RX12 457 yX12_common wsX12_common) := goodIn_app (goodIn_of _ (by decide +kernel)) ggX12_share_X12_common
theorem dX12_share_0 : decode cX12_share 0 = .ok (.iload_n 2, 1) := by decide +kernel
theorem dX12_share_1 : decode cX12_share 1 = .ok (.iconst 1, 1) := by decide +kernel
theorem dX12_share_2 : decode cX12_share 2 = .ok (.iconst 4, 1) := by decide +kernel
theorem dX12_share_3 : decode cX12_share 3 = .ok (.invokestatic 68, 3) := by decide +kernel
theorem dX12_share_6 : decode cX12_share 6 = .ok (.ifCond .eq 14, 3) := by decide +kernel
theorem dX12_share_9 : decode cX12_share 9 = .ok (.iload_n 1, 1) := by decide +kernel
theorem dX12_share_10 : decode cX12_share 10 = .ok (.iconst 0, 1) := by decide +kernel
theorem dX12_share_11 : decode cX12_share 11 = .ok (.iload_n 2, 1) := by decide +kernel
theorem dX12_share_12 : decode cX12_share 12 = .ok (.iconst 1, 1) := by decide +kernel
theorem dX12_share_13 : decode cX12_share 13 = .ok (.isub, 1) := by decide +kernel
theorem dX12_share_14 : decode cX12_share 14 = .ok (.invokestatic 68, 3) := by decide +kernel
theorem dX12_share_17 : decode cX12_share 17 = .ok (.ifCond .ne 5, 3) := by decide +kernel
theorem dX12_share_20 : decode cX12_share 20 = .ok (.iconst (-1), 1) := by decide +kernel
theorem dX12_share_21 : decode cX12_share 21 = .ok (.ireturn, 1) := by decide +kernel
theorem dX12_share_22 : decode cX12_share 22 = .ok (.iconst 0, 1) := by decide +kernel
theorem dX12_share_23 : decode cX12_share 23 = .ok (.istore 4, 2) := by decide +kernel
theorem dX12_share_25 : decode cX12_share 25 = .ok (.iconst 0, 1) := by decide +kernel
theorem dX12_share_26 : decode cX12_share 26 = .ok (.istore 5, 2) := by decide +kernel
theorem dX12_share_28 : decode cX12_share 28 = .ok (.iload 5, 2) := by decide +kernel
theorem dX12_share_30 : decode cX12_share 30 = .ok (.iconst 1, 1) := by decide +kernel
theorem dX12_share_31 : decode cX12_share 31 = .ok (.iload_n 2, 1) := by decide +kernel
theorem dX12_share_32 : decode cX12_share 32 = .ok (.ishl, 1) := by decide +kernel
theorem dX12_share_33 : decode cX12_share 33 = .ok (.if_icmp .ge 75, 3) := by decide +kernel
theorem dX12_share_36 : decode cX12_share 36 = .ok (.iload 5, 2) := by decide +kernel
theorem dX12_share_38 : decode cX12_share 38 = .ok (.iload_n 1, 1) := by decide +kernel
theorem dX12_share_39 : decode cX12_share 39 = .ok (.invokestatic 262, 3) := by decide +kernel
theorem dX12_share_42 : decode cX12_share 42 = .ok (.ifCond .eq 6, 3) := by decide +kernel
theorem dX12_share_45 : decode cX12_share 45 = .ok (.goto 57, 3) := by decide +kernel
theorem dX12_share_48 : decode cX12_share 48 = .ok (.iload 4, 2) := by decide +kernel
theorem dX12_share_50 : decode cX12_share 50 = .ok (.iload 5, 2) := by decide +kernel
theorem dX12_share_52 : decode cX12_share 52 = .ok (.invokestatic 321, 3) := by decide +kernel
theorem dX12_share_55 : decode cX12_share 55 = .ok (.invokestatic 454, 3) := by decide +kernel
theorem dX12_share_58 : decode cX12_share 58 = .ok (.iload_n 2, 1) := by decide +kernel
theorem dX12_share_59 : decode cX12_share 59 = .ok (.iconst 1, 1) := by decide +kernel
theorem dX12_share_60 : decode cX12_share 60 = .ok (.isub, 1) := by decide +kernel
theorem dX12_share_61 : decode cX12_share 61 = .ok (.iload 5, 2) := by decide +kernel
theorem dX12_share_63 : decode cX12_share 63 = .ok (.invokestatic 321, 3) := by decide +kernel
theorem dX12_share_66 : decode cX12_share 66 = .ok (.isub, 1) := by decide +kernel
theorem dX12_share_67 : decode cX12_share 67 = .ok (.invokestatic 454, 3) := by decide +kernel
theorem dX12_share_70 : decode cX12_share 70 = .ok (.imul, 1) := by decide +kernel
theorem dX12_share_71 : decode cX12_share 71 = .ok (.aload_n 0, 1) := by decide +kernel
theorem dX12_share_72 : decode cX12_share 72 = .ok (.getfield 7, 3) := by decide +kernel
theorem dX12_share_75 : decode cX12_share 75 = .ok (.sipush 167, 3) := by decide +kernel
theorem dX12_share_78 : decode cX12_share 78 = .ok (.iload 5, 2) := by decide +kernel
theorem dX12_share_80 : decode cX12_share 80 = .ok (.iconst 1, 1) := by decide +kernel
theorem dX12_share_81 : decode cX12_share 81 = .ok (.iload_n 1, 1) := by decide +kernel
theorem dX12_share_82 : decode cX12_share 82 = .ok (.ishl, 1) := by decide +kernel
theorem dX12_share_83 : decode cX12_share 83 = .ok (.ior, 1) := by decide +kernel
theorem dX12_share_84 : decode cX12_share 84 = .ok (.iadd, 1) := by decide +kernel
theorem dX12_share_85 : decode cX12_share 85 = .ok (.iaload, 1) := by decide +kernel
theorem dX12_share_86 : decode cX12_share 86 = .ok (.aload_n 0, 1) := by decide +kernel
theorem dX12_share_87 : decode cX12_share 87 = .ok (.getfield 7, 3) := by decide +kernel
theorem dX12_share_90 : decode cX12_share 90 = .ok (.sipush 167, 3) := by decide +kernel
theorem dX12_share_93 : decode cX12_share 93 = .ok (.iload 5, 2) := by decide +kernel
theorem dX12_share_95 : decode cX12_share 95 = .ok (.iadd, 1) := by decide +kernel
theorem dX12_share_96 : decode cX12_share 96 = .ok (.iaload, 1) := by decide +kernel
theorem dX12_share_97 : decode cX12_share 97 = .ok (.isub, 1) := by decide +kernel
theorem dX12_share_98 : decode cX12_share 98 = .ok (.imul, 1) := by decide +kernel
theorem dX12_share_99 : decode cX12_share 99 = .ok (.iadd, 1) := by decide +kernel
theorem dX12_share_100 : decode cX12_share 100 = .ok (.istore 4, 2) := by decide +kernel
theorem dX12_share_102 : decode cX12_share 102 = .ok (.iinc 5 1, 3) := by decide +kernel
theorem dX12_share_105 : decode cX12_share 105 = .ok (.goto (-77), 3) := by decide +kernel
theorem dX12_share_108 : decode cX12_share 108 = .ok (.iload_n 2, 1) := by decide +kernel
theorem dX12_share_109 : decode cX12_share 109 = .ok (.invokestatic 454, 3) := by decide +kernel
theorem dX12_share_112 : decode cX12_share 112 = .ok (.istore 5, 2) := by decide +kernel
theorem dX12_share_114 : decode cX12_share 114 = .ok (.iload_n 3, 1) := by decide +kernel
theorem dX12_share_115 : decode cX12_share 115 = .ok (.ifCond .eq 8, 3) := by decide +kernel
theorem dX12_share_118 : decode cX12_share 118 = .ok (.iload 5, 2) := by decide +kernel
theorem dX12_share_120 : decode cX12_share 120 = .ok (.goto 5, 3) := by decide +kernel
theorem dX12_share_123 : decode cX12_share 123 = .ok (.iload 4, 2) := by decide +kernel
theorem dX12_share_125 : decode cX12_share 125 = .ok (.iload 4, 2) := by decide +kernel
theorem dX12_share_127 : decode cX12_share 127 = .ok (.i2l, 1) := by decide +kernel
theorem dX12_share_128 : decode cX12_share 128 = .ok (.iload 5, 2) := by decide +kernel
theorem dX12_share_130 : decode cX12_share 130 = .ok (.i2l, 1) := by decide +kernel
theorem dX12_share_131 : decode cX12_share 131 = .ok (.invokestatic 457, 3) := by decide +kernel
theorem dX12_share_134 : decode cX12_share 134 = .ok (.l2i, 1) := by decide +kernel
theorem dX12_share_135 : decode cX12_share 135 = .ok (.idiv, 1) := by decide +kernel
theorem dX12_share_136 : decode cX12_share 136 = .ok (.ireturn, 1) := by decide +kernel
theorem dX12_meanOf_0 : decode cX12_meanOf 0 = .ok (.lconst 0, 1) := by decide +kernel
theorem dX12_meanOf_1 : decode cX12_meanOf 1 = .ok (.lstore 4, 2) := by decide +kernel
theorem dX12_meanOf_3 : decode cX12_meanOf 3 = .ok (.lconst 1, 1) := by decide +kernel
theorem dX12_meanOf_4 : decode cX12_meanOf 4 = .ok (.lstore 6, 2) := by decide +kernel
theorem dX12_meanOf_6 : decode cX12_meanOf 6 = .ok (.ldc2_w 461, 3) := by decide +kernel
theorem dX12_meanOf_9 : decode cX12_meanOf 9 = .ok (.lstore 8, 2) := by decide +kernel
theorem dX12_meanOf_11 : decode cX12_meanOf 11 = .ok (.iconst 1, 1) := by decide +kernel
theorem dX12_meanOf_12 : decode cX12_meanOf 12 = .ok (.istore 10, 2) := by decide +kernel
theorem dX12_meanOf_14 : decode cX12_meanOf 14 = .ok (.iload 10, 2) := by decide +kernel
theorem dX12_meanOf_16 : decode cX12_meanOf 16 = .ok (.iload_n 3, 1) := by decide +kernel
theorem dX12_meanOf_17 : decode cX12_meanOf 17 = .ok (.if_icmp .gt 53, 3) := by decide +kernel
theorem dX12_meanOf_20 : decode cX12_meanOf 20 = .ok (.lload 4, 2) := by decide +kernel
theorem dX12_meanOf_22 : decode cX12_meanOf 22 = .ok (.lload 6, 2) := by decide +kernel
theorem dX12_meanOf_24 : decode cX12_meanOf 24 = .ok (.iload_n 0, 1) := by decide +kernel
theorem dX12_meanOf_25 : decode cX12_meanOf 25 = .ok (.iload_n 1, 1) := by decide +kernel
theorem dX12_meanOf_26 : decode cX12_meanOf 26 = .ok (.imul, 1) := by decide +kernel
theorem dX12_meanOf_27 : decode cX12_meanOf 27 = .ok (.i2l, 1) := by decide +kernel
theorem dX12_meanOf_28 : decode cX12_meanOf 28 = .ok (.ldc2_w 463, 3) := by decide +kernel
theorem dX12_meanOf_31 : decode cX12_meanOf 31 = .ok (.iload 10, 2) := by decide +kernel
theorem dX12_meanOf_33 : decode cX12_meanOf 33 = .ok (.i2l, 1) := by decide +kernel
theorem dX12_meanOf_34 : decode cX12_meanOf 34 = .ok (.lmul, 1) := by decide +kernel
theorem dX12_meanOf_35 : decode cX12_meanOf 35 = .ok (.iload_n 2, 1) := by decide +kernel
theorem dX12_meanOf_36 : decode cX12_meanOf 36 = .ok (.i2l, 1) := by decide +kernel
theorem dX12_meanOf_37 : decode cX12_meanOf 37 = .ok (.lmul, 1) := by decide +kernel
theorem dX12_meanOf_38 : decode cX12_meanOf 38 = .ok (.lsub, 1) := by decide +kernel
theorem dX12_meanOf_39 : decode cX12_meanOf 39 = .ok (.lmul, 1) := by decide +kernel
theorem dX12_meanOf_40 : decode cX12_meanOf 40 = .ok (.lload 8, 2) := by decide +kernel
theorem dX12_meanOf_42 : decode cX12_meanOf 42 = .ok (.lmul, 1) := by decide +kernel
theorem dX12_meanOf_43 : decode cX12_meanOf 43 = .ok (.ladd, 1) := by decide +kernel
theorem dX12_meanOf_44 : decode cX12_meanOf 44 = .ok (.lstore 4, 2) := by decide +kernel
theorem dX12_meanOf_46 : decode cX12_meanOf 46 = .ok (.lload 6, 2) := by decide +kernel
theorem dX12_meanOf_48 : decode cX12_meanOf 48 = .ok (.bipush 10, 2) := by decide +kernel
theorem dX12_meanOf_50 : decode cX12_meanOf 50 = .ok (.iload_n 0, 1) := by decide +kernel
theorem dX12_meanOf_51 : decode cX12_meanOf 51 = .ok (.isub, 1) := by decide +kernel
theorem dX12_meanOf_52 : decode cX12_meanOf 52 = .ok (.i2l, 1) := by decide +kernel
theorem dX12_meanOf_53 : decode cX12_meanOf 53 = .ok (.lmul, 1) := by decide +kernel
theorem dX12_meanOf_54 : decode cX12_meanOf 54 = .ok (.lstore 6, 2) := by decide +kernel
theorem dX12_meanOf_56 : decode cX12_meanOf 56 = .ok (.lload 8, 2) := by decide +kernel
theorem dX12_meanOf_58 : decode cX12_meanOf 58 = .ok (.ldc2_w 463, 3) := by decide +kernel
theorem dX12_meanOf_61 : decode cX12_meanOf 61 = .ok (.ldiv, 1) := by decide +kernel
theorem dX12_meanOf_62 : decode cX12_meanOf 62 = .ok (.lstore 8, 2) := by decide +kernel
theorem dX12_meanOf_64 : decode cX12_meanOf 64 = .ok (.iinc 10 1, 3) := by decide +kernel
theorem dX12_meanOf_67 : decode cX12_meanOf 67 = .ok (.goto (-53), 3) := by decide +kernel
theorem dX12_meanOf_70 : decode cX12_meanOf 70 = .ok (.lload 4, 2) := by decide +kernel
theorem dX12_meanOf_72 : decode cX12_meanOf 72 = .ok (.lreturn, 1) := by decide +kernel
set_option maxRecDepth 20000 in
theorem ggX12_stays_X12_isIn : GoodIn wsX12_stays wsX12_isIn := goodIn_r _ [6] rfl (by decide +kernel)
set_option maxRecDepth 20000 in
theorem gX12_stays_X12_isIn : GoodIn wsX12_stays (va_wsS RX12 68 yX12_isIn wsX12_isIn) := goodIn_app (goodIn_of _ (by decide +kernel)) ggX12_stays_X12_isIn
set_option maxRecDepth 20000 in
theorem ggX12_stays_X12_meanOf : GoodIn wsX12_stays wsX12_meanOf := goodIn_r _ [9, 10, 11] rfl (by decide +kernel)
set_option maxRecDepth 20000 in
theorem gX12_stays_X12_meanOf : GoodIn wsX12_stays (va_wsS RX12 466 yX12_meanOf wsX12_meanOf) := goodIn_app (goodIn_of _ (by decide +kernel)) ggX12_stays_X12_meanOf
set_option maxRecDepth 20000 in
theorem ggX12_stays_X12_common : GoodIn wsX12_stays wsX12_common := goodIn_r _ [14] rfl (by decide +kernel)
set_option maxRecDepth 20000 in
theorem gX12_stays_X12_common : GoodIn wsX12_stays (va_wsS RX12 457 yX12_common wsX12_common) := goodIn_app (goodIn_of _ (by decide +kernel)) ggX12_stays_X12_common
theorem dX12_stays_0 : decode cX12_stays 0 = .ok (.iload_n 1, 1) := by decide +kernel
theorem dX12_stays_1 : decode cX12_stays 1 = .ok (.iconst 0, 1) := by decide +kernel
theorem dX12_stays_2 : decode cX12_stays 2 = .ok (.bipush 10, 2) := by decide +kernel
theorem dX12_stays_4 : decode cX12_stays 4 = .ok (.invokestatic 68, 3) := by decide +kernel
theorem dX12_stays_7 : decode cX12_stays 7 = .ok (.ifCond .eq 34, 3) := by decide +kernel
theorem dX12_stays_10 : decode cX12_stays 10 = .ok (.iload_n 2, 1) := by decide +kernel
theorem dX12_stays_11 : decode cX12_stays 11 = .ok (.iconst 0, 1) := by decide +kernel
theorem dX12_stays_12 : decode cX12_stays 12 = .ok (.sipush 999, 3) := by decide +kernel
theorem dX12_stays_15 : decode cX12_stays 15 = .ok (.invokestatic 68, 3) := by decide +kernel
theorem dX12_stays_18 : decode cX12_stays 18 = .ok (.ifCond .eq 23, 3) := by decide +kernel
theorem dX12_stays_21 : decode cX12_stays 21 = .ok (.iload_n 3, 1) := by decide +kernel
theorem dX12_stays_22 : decode cX12_stays 22 = .ok (.iconst 0, 1) := by decide +kernel
theorem dX12_stays_23 : decode cX12_stays 23 = .ok (.bipush 99, 2) := by decide +kernel
theorem dX12_stays_25 : decode cX12_stays 25 = .ok (.invokestatic 68, 3) := by decide +kernel
theorem dX12_stays_28 : decode cX12_stays 28 = .ok (.ifCond .eq 13, 3) := by decide +kernel
theorem dX12_stays_31 : decode cX12_stays 31 = .ok (.iload 4, 2) := by decide +kernel
theorem dX12_stays_33 : decode cX12_stays 33 = .ok (.iconst 0, 1) := by decide +kernel
theorem dX12_stays_34 : decode cX12_stays 34 = .ok (.iconst 2, 1) := by decide +kernel
theorem dX12_stays_35 : decode cX12_stays 35 = .ok (.invokestatic 68, 3) := by decide +kernel
theorem dX12_stays_38 : decode cX12_stays 38 = .ok (.ifCond .ne 7, 3) := by decide +kernel
theorem dX12_stays_41 : decode cX12_stays 41 = .ok (.ldc_w 465, 3) := by decide +kernel
theorem dX12_stays_44 : decode cX12_stays 44 = .ok (.ireturn, 1) := by decide +kernel
theorem dX12_stays_45 : decode cX12_stays 45 = .ok (.iconst 0, 1) := by decide +kernel
theorem dX12_stays_46 : decode cX12_stays 46 = .ok (.istore 5, 2) := by decide +kernel
theorem dX12_stays_48 : decode cX12_stays 48 = .ok (.lconst 0, 1) := by decide +kernel
theorem dX12_stays_49 : decode cX12_stays 49 = .ok (.lstore 6, 2) := by decide +kernel
theorem dX12_stays_51 : decode cX12_stays 51 = .ok (.iconst 1, 1) := by decide +kernel
theorem dX12_stays_52 : decode cX12_stays 52 = .ok (.istore 8, 2) := by decide +kernel
theorem dX12_stays_54 : decode cX12_stays 54 = .ok (.iload 8, 2) := by decide +kernel
theorem dX12_stays_56 : decode cX12_stays 56 = .ok (.bipush 7, 2) := by decide +kernel
theorem dX12_stays_58 : decode cX12_stays 58 = .ok (.if_icmp .ge 38, 3) := by decide +kernel
theorem dX12_stays_61 : decode cX12_stays 61 = .ok (.iload_n 1, 1) := by decide +kernel
theorem dX12_stays_62 : decode cX12_stays 62 = .ok (.iload_n 2, 1) := by decide +kernel
theorem dX12_stays_63 : decode cX12_stays 63 = .ok (.iload_n 3, 1) := by decide +kernel
theorem dX12_stays_64 : decode cX12_stays 64 = .ok (.iload 8, 2) := by decide +kernel
theorem dX12_stays_66 : decode cX12_stays 66 = .ok (.invokestatic 466, 3) := by decide +kernel
theorem dX12_stays_69 : decode cX12_stays 69 = .ok (.lstore 9, 2) := by decide +kernel
theorem dX12_stays_71 : decode cX12_stays 71 = .ok (.lload 9, 2) := by decide +kernel
theorem dX12_stays_73 : decode cX12_stays 73 = .ok (.lload 6, 2) := by decide +kernel
theorem dX12_stays_75 : decode cX12_stays 75 = .ok (.lcmp, 1) := by decide +kernel
theorem dX12_stays_76 : decode cX12_stays 76 = .ok (.ifCond .gt 6, 3) := by decide +kernel
theorem dX12_stays_79 : decode cX12_stays 79 = .ok (.goto 11, 3) := by decide +kernel
theorem dX12_stays_82 : decode cX12_stays 82 = .ok (.lload 9, 2) := by decide +kernel
theorem dX12_stays_84 : decode cX12_stays 84 = .ok (.lstore 6, 2) := by decide +kernel
theorem dX12_stays_86 : decode cX12_stays 86 = .ok (.iload 8, 2) := by decide +kernel
theorem dX12_stays_88 : decode cX12_stays 88 = .ok (.istore 5, 2) := by decide +kernel
theorem dX12_stays_90 : decode cX12_stays 90 = .ok (.iinc 8 1, 3) := by decide +kernel
theorem dX12_stays_93 : decode cX12_stays 93 = .ok (.goto (-39), 3) := by decide +kernel
theorem dX12_stays_96 : decode cX12_stays 96 = .ok (.lload 6, 2) := by decide +kernel
theorem dX12_stays_98 : decode cX12_stays 98 = .ok (.ldc2_w 275, 3) := by decide +kernel
theorem dX12_stays_101 : decode cX12_stays 101 = .ok (.invokestatic 457, 3) := by decide +kernel
theorem dX12_stays_104 : decode cX12_stays 104 = .ok (.lstore 8, 2) := by decide +kernel
theorem dX12_stays_106 : decode cX12_stays 106 = .ok (.iload 4, 2) := by decide +kernel
theorem dX12_stays_108 : decode cX12_stays 108 = .ok (.ifCond .ne 8, 3) := by decide +kernel
theorem dX12_stays_111 : decode cX12_stays 111 = .ok (.iload 5, 2) := by decide +kernel
theorem dX12_stays_113 : decode cX12_stays 113 = .ok (.goto 21, 3) := by decide +kernel
theorem dX12_stays_116 : decode cX12_stays 116 = .ok (.iload 4, 2) := by decide +kernel
theorem dX12_stays_118 : decode cX12_stays 118 = .ok (.iconst 1, 1) := by decide +kernel
theorem dX12_stays_119 : decode cX12_stays 119 = .ok (.if_icmp .ne 8, 3) := by decide +kernel
theorem dX12_stays_122 : decode cX12_stays 122 = .ok (.lload 6, 2) := by decide +kernel
theorem dX12_stays_124 : decode cX12_stays 124 = .ok (.goto 6, 3) := by decide +kernel
theorem dX12_stays_127 : decode cX12_stays 127 = .ok (.ldc2_w 275, 3) := by decide +kernel
theorem dX12_stays_130 : decode cX12_stays 130 = .ok (.lload 8, 2) := by decide +kernel
theorem dX12_stays_132 : decode cX12_stays 132 = .ok (.ldiv, 1) := by decide +kernel
theorem dX12_stays_133 : decode cX12_stays 133 = .ok (.l2i, 1) := by decide +kernel
theorem dX12_stays_134 : decode cX12_stays 134 = .ok (.ireturn, 1) := by decide +kernel
set_option maxRecDepth 20000 in
theorem ggX12_behind_X12_isKind : GoodIn wsX12_behind wsX12_isKind := goodIn_r _ [5, 6, 7, 4, 8] rfl (by decide +kernel)
set_option maxRecDepth 20000 in
theorem gX12_behind_X12_isKind : GoodIn wsX12_behind (va_wsS RX12 93 yX12_isKind wsX12_isKind) := goodIn_app (goodIn_of _ (by decide +kernel)) ggX12_behind_X12_isKind
set_option maxRecDepth 20000 in
theorem ggX12_behind_X12_has : GoodIn wsX12_behind wsX12_has := goodIn_r _ [11] rfl (by decide +kernel)
set_option maxRecDepth 20000 in
theorem gX12_behind_X12_has : GoodIn wsX12_behind (va_wsS RX12 262 yX12_has wsX12_has) := goodIn_app (goodIn_of _ (by decide +kernel)) ggX12_behind_X12_has
theorem dX12_behind_0 : decode cX12_behind 0 = .ok (.iload_n 1, 1) := by decide +kernel
theorem dX12_behind_1 : decode cX12_behind 1 = .ok (.invokestatic 93, 3) := by decide +kernel
theorem dX12_behind_4 : decode cX12_behind 4 = .ok (.ifCond .eq 32, 3) := by decide +kernel
theorem dX12_behind_7 : decode cX12_behind 7 = .ok (.iload_n 2, 1) := by decide +kernel
theorem dX12_behind_8 : decode cX12_behind 8 = .ok (.invokestatic 93, 3) := by decide +kernel
theorem dX12_behind_11 : decode cX12_behind 11 = .ok (.ifCond .eq 25, 3) := by decide +kernel
theorem dX12_behind_14 : decode cX12_behind 14 = .ok (.iload_n 1, 1) := by decide +kernel
theorem dX12_behind_15 : decode cX12_behind 15 = .ok (.iload_n 2, 1) := by decide +kernel
theorem dX12_behind_16 : decode cX12_behind 16 = .ok (.if_icmp .eq 20, 3) := by decide +kernel
theorem dX12_behind_19 : decode cX12_behind 19 = .ok (.aload_n 0, 1) := by decide +kernel
theorem dX12_behind_20 : decode cX12_behind 20 = .ok (.getfield 7, 3) := by decide +kernel
theorem dX12_behind_23 : decode cX12_behind 23 = .ok (.sipush 183, 3) := by decide +kernel
theorem dX12_behind_26 : decode cX12_behind 26 = .ok (.iload_n 1, 1) := by decide +kernel
theorem dX12_behind_27 : decode cX12_behind 27 = .ok (.iadd, 1) := by decide +kernel
theorem dX12_behind_28 : decode cX12_behind 28 = .ok (.iaload, 1) := by decide +kernel
theorem dX12_behind_29 : decode cX12_behind 29 = .ok (.iload_n 2, 1) := by decide +kernel
theorem dX12_behind_30 : decode cX12_behind 30 = .ok (.invokestatic 262, 3) := by decide +kernel
theorem dX12_behind_33 : decode cX12_behind 33 = .ok (.ifCond .eq 5, 3) := by decide +kernel
theorem dX12_behind_36 : decode cX12_behind 36 = .ok (.iconst 0, 1) := by decide +kernel
theorem dX12_behind_37 : decode cX12_behind 37 = .ok (.ireturn, 1) := by decide +kernel
theorem dX12_behind_38 : decode cX12_behind 38 = .ok (.aload_n 0, 1) := by decide +kernel
theorem dX12_behind_39 : decode cX12_behind 39 = .ok (.getfield 7, 3) := by decide +kernel
theorem dX12_behind_42 : decode cX12_behind 42 = .ok (.sipush 183, 3) := by decide +kernel
theorem dX12_behind_45 : decode cX12_behind 45 = .ok (.iload_n 1, 1) := by decide +kernel
theorem dX12_behind_46 : decode cX12_behind 46 = .ok (.iadd, 1) := by decide +kernel
theorem dX12_behind_47 : decode cX12_behind 47 = .ok (.dup2, 1) := by decide +kernel
theorem dX12_behind_48 : decode cX12_behind 48 = .ok (.iaload, 1) := by decide +kernel
theorem dX12_behind_49 : decode cX12_behind 49 = .ok (.iconst 1, 1) := by decide +kernel
theorem dX12_behind_50 : decode cX12_behind 50 = .ok (.iload_n 2, 1) := by decide +kernel
theorem dX12_behind_51 : decode cX12_behind 51 = .ok (.ishl, 1) := by decide +kernel
theorem dX12_behind_52 : decode cX12_behind 52 = .ok (.ior, 1) := by decide +kernel
theorem dX12_behind_53 : decode cX12_behind 53 = .ok (.iastore, 1) := by decide +kernel
theorem dX12_behind_54 : decode cX12_behind 54 = .ok (.iconst 1, 1) := by decide +kernel
theorem dX12_behind_55 : decode cX12_behind 55 = .ok (.ireturn, 1) := by decide +kernel
set_option maxRecDepth 20000 in
theorem ggX12_canLearn_X12_has : GoodIn wsX12_canLearn wsX12_has := goodIn_r _ [5] rfl (by decide +kernel)
set_option maxRecDepth 20000 in
theorem gX12_canLearn_X12_has : GoodIn wsX12_canLearn (va_wsS RX12 262 yX12_has wsX12_has) := goodIn_app (goodIn_of _ (by decide +kernel)) ggX12_canLearn_X12_has
theorem dX12_canLearn_0 : decode cX12_canLearn 0 = .ok (.iload_n 2, 1) := by decide +kernel
theorem dX12_canLearn_1 : decode cX12_canLearn 1 = .ok (.iload_n 1, 1) := by decide +kernel
theorem dX12_canLearn_2 : decode cX12_canLearn 2 = .ok (.invokestatic 262, 3) := by decide +kernel
theorem dX12_canLearn_5 : decode cX12_canLearn 5 = .ok (.ifCond .ne 24, 3) := by decide +kernel
theorem dX12_canLearn_8 : decode cX12_canLearn 8 = .ok (.aload_n 0, 1) := by decide +kernel
theorem dX12_canLearn_9 : decode cX12_canLearn 9 = .ok (.getfield 7, 3) := by decide +kernel
theorem dX12_canLearn_12 : decode cX12_canLearn 12 = .ok (.sipush 183, 3) := by decide +kernel
theorem dX12_canLearn_15 : decode cX12_canLearn 15 = .ok (.iload_n 1, 1) := by decide +kernel
theorem dX12_canLearn_16 : decode cX12_canLearn 16 = .ok (.iadd, 1) := by decide +kernel
theorem dX12_canLearn_17 : decode cX12_canLearn 17 = .ok (.iaload, 1) := by decide +kernel
theorem dX12_canLearn_18 : decode cX12_canLearn 18 = .ok (.iload_n 2, 1) := by decide +kernel
theorem dX12_canLearn_19 : decode cX12_canLearn 19 = .ok (.iconst (-1), 1) := by decide +kernel
theorem dX12_canLearn_20 : decode cX12_canLearn 20 = .ok (.ixor, 1) := by decide +kernel
theorem dX12_canLearn_21 : decode cX12_canLearn 21 = .ok (.iand, 1) := by decide +kernel
theorem dX12_canLearn_22 : decode cX12_canLearn 22 = .ok (.ifCond .ne 7, 3) := by decide +kernel
theorem dX12_canLearn_25 : decode cX12_canLearn 25 = .ok (.iconst 1, 1) := by decide +kernel
theorem dX12_canLearn_26 : decode cX12_canLearn 26 = .ok (.goto 4, 3) := by decide +kernel
theorem dX12_canLearn_29 : decode cX12_canLearn 29 = .ok (.iconst 0, 1) := by decide +kernel
theorem dX12_canLearn_30 : decode cX12_canLearn 30 = .ok (.ireturn, 1) := by decide +kernel
set_option maxRecDepth 20000 in
theorem ggX12_layOrders_X12_canLearn : GoodIn wsX12_layOrders wsX12_canLearn := goodIn_r _ [6, 7, 8, 9, 5, 10, 11, 12, 13, 14, 15, 16, 17, 18, 19, 20, 21, 22, 23, 24, 25, 26, 27, 28, 29, 30, 31, 32, 33, 34, 35, 36, 37, 38, 39, 40, 41] rfl (by decide +kernel)
set_option maxRecDepth 20000 in
theorem gX12_layOrders_X12_canLearn : GoodIn wsX12_layOrders (wsV RX12 469 RX12 yX12_canLearn wsX12_canLearn) := goodIn_app (goodIn_of _ (by decide +kernel)) ggX12_layOrders_X12_canLearn
theorem dX12_layOrders_0 : decode cX12_layOrders 0 = .ok (.aload_n 0, 1) := by decide +kernel
theorem dX12_layOrders_1 : decode cX12_layOrders 1 = .ok (.getfield 61, 3) := by decide +kernel
theorem dX12_layOrders_4 : decode cX12_layOrders 4 = .ok (.bipush 31, 2) := by decide +kernel
theorem dX12_layOrders_6 : decode cX12_layOrders 6 = .ok (.iconst 1, 1) := by decide +kernel
theorem dX12_layOrders_7 : decode cX12_layOrders 7 = .ok (.iastore, 1) := by decide +kernel
theorem dX12_layOrders_8 : decode cX12_layOrders 8 = .ok (.bipush 30, 2) := by decide +kernel
theorem dX12_layOrders_10 : decode cX12_layOrders 10 = .ok (.istore_n 1, 1) := by decide +kernel
theorem dX12_layOrders_11 : decode cX12_layOrders 11 = .ok (.iload_n 1, 1) := by decide +kernel
theorem dX12_layOrders_12 : decode cX12_layOrders 12 = .ok (.ifCond .lt 57, 3) := by decide +kernel
theorem dX12_layOrders_15 : decode cX12_layOrders 15 = .ok (.aload_n 0, 1) := by decide +kernel
theorem dX12_layOrders_16 : decode cX12_layOrders 16 = .ok (.getfield 61, 3) := by decide +kernel
theorem dX12_layOrders_19 : decode cX12_layOrders 19 = .ok (.iload_n 1, 1) := by decide +kernel
theorem dX12_layOrders_20 : decode cX12_layOrders 20 = .ok (.iconst 0, 1) := by decide +kernel
theorem dX12_layOrders_21 : decode cX12_layOrders 21 = .ok (.iastore, 1) := by decide +kernel
theorem dX12_layOrders_22 : decode cX12_layOrders 22 = .ok (.iconst 0, 1) := by decide +kernel
theorem dX12_layOrders_23 : decode cX12_layOrders 23 = .ok (.istore_n 2, 1) := by decide +kernel
theorem dX12_layOrders_24 : decode cX12_layOrders 24 = .ok (.iload_n 2, 1) := by decide +kernel
theorem dX12_layOrders_25 : decode cX12_layOrders 25 = .ok (.iconst 5, 1) := by decide +kernel
theorem dX12_layOrders_26 : decode cX12_layOrders 26 = .ok (.if_icmp .ge 37, 3) := by decide +kernel
theorem dX12_layOrders_29 : decode cX12_layOrders 29 = .ok (.aload_n 0, 1) := by decide +kernel
theorem dX12_layOrders_30 : decode cX12_layOrders 30 = .ok (.iload_n 2, 1) := by decide +kernel
theorem dX12_layOrders_31 : decode cX12_layOrders 31 = .ok (.iload_n 1, 1) := by decide +kernel
theorem dX12_layOrders_32 : decode cX12_layOrders 32 = .ok (.invokevirtual 469, 3) := by decide +kernel
theorem dX12_layOrders_35 : decode cX12_layOrders 35 = .ok (.ifCond .eq 22, 3) := by decide +kernel
theorem dX12_layOrders_38 : decode cX12_layOrders 38 = .ok (.aload_n 0, 1) := by decide +kernel
theorem dX12_layOrders_39 : decode cX12_layOrders 39 = .ok (.getfield 61, 3) := by decide +kernel
theorem dX12_layOrders_42 : decode cX12_layOrders 42 = .ok (.iload_n 1, 1) := by decide +kernel
theorem dX12_layOrders_43 : decode cX12_layOrders 43 = .ok (.dup2, 1) := by decide +kernel
theorem dX12_layOrders_44 : decode cX12_layOrders 44 = .ok (.iaload, 1) := by decide +kernel
theorem dX12_layOrders_45 : decode cX12_layOrders 45 = .ok (.aload_n 0, 1) := by decide +kernel
theorem dX12_layOrders_46 : decode cX12_layOrders 46 = .ok (.getfield 61, 3) := by decide +kernel
theorem dX12_layOrders_49 : decode cX12_layOrders 49 = .ok (.iload_n 1, 1) := by decide +kernel
theorem dX12_layOrders_50 : decode cX12_layOrders 50 = .ok (.iconst 1, 1) := by decide +kernel
theorem dX12_layOrders_51 : decode cX12_layOrders 51 = .ok (.iload_n 2, 1) := by decide +kernel
theorem dX12_layOrders_52 : decode cX12_layOrders 52 = .ok (.ishl, 1) := by decide +kernel
theorem dX12_layOrders_53 : decode cX12_layOrders 53 = .ok (.ior, 1) := by decide +kernel
theorem dX12_layOrders_54 : decode cX12_layOrders 54 = .ok (.iaload, 1) := by decide +kernel
theorem dX12_layOrders_55 : decode cX12_layOrders 55 = .ok (.iadd, 1) := by decide +kernel
theorem dX12_layOrders_56 : decode cX12_layOrders 56 = .ok (.iastore, 1) := by decide +kernel
theorem dX12_layOrders_57 : decode cX12_layOrders 57 = .ok (.iinc 2 1, 3) := by decide +kernel
theorem dX12_layOrders_60 : decode cX12_layOrders 60 = .ok (.goto (-36), 3) := by decide +kernel
theorem dX12_layOrders_63 : decode cX12_layOrders 63 = .ok (.iinc 1 (-1), 3) := by decide +kernel
theorem dX12_layOrders_66 : decode cX12_layOrders 66 = .ok (.goto (-55), 3) := by decide +kernel
theorem dX12_layOrders_69 : decode cX12_layOrders 69 = .ok (.return_, 1) := by decide +kernel
set_option maxRecDepth 20000 in
theorem ggX12_lessons_X12_isIn : GoodIn wsX12_lessons wsX12_isIn := goodIn_r _ [5] rfl (by decide +kernel)
set_option maxRecDepth 20000 in
theorem gX12_lessons_X12_isIn : GoodIn wsX12_lessons (va_wsS RX12 68 yX12_isIn wsX12_isIn) := goodIn_app (goodIn_of _ (by decide +kernel)) ggX12_lessons_X12_isIn
set_option maxRecDepth 20000 in
theorem ggX12_lessons_X12_layOrders : GoodIn wsX12_lessons wsX12_layOrders := goodIn_r _ [9, 1, 10, 11, 12, 4, 13, 14, 15, 16, 17, 18, 19, 20, 21, 22, 23, 24, 25, 26, 27, 28, 29, 30, 31, 32, 33, 34, 35, 36, 37, 38, 39, 40, 41, 42, 43, 44, 45, 46, 47, 48] rfl (by decide +kernel)
set_option maxRecDepth 20000 in
theorem gX12_lessons_X12_layOrders : GoodIn wsX12_lessons (wsV RX12 472 RX12 yX12_layOrders wsX12_layOrders) := goodIn_app (goodIn_of _ (by decide +kernel)) ggX12_lessons_X12_layOrders
set_option maxRecDepth 20000 in
theorem ggX12_lessons_X12_canLearn : GoodIn wsX12_lessons wsX12_canLearn := goodIn_r _ [13, 14, 15, 16, 4, 17, 18, 19, 20, 21, 22, 23, 24, 25, 26, 27, 28, 29, 30, 31, 32, 33, 34, 35, 36, 37, 38, 39, 40, 41, 42, 43, 44, 45, 46, 47, 48] rfl (by decide +kernel)
set_option maxRecDepth 20000 in
theorem gX12_lessons_X12_canLearn : GoodIn wsX12_lessons (wsV RX12 469 RX12 yX12_canLearn wsX12_canLearn) := goodIn_app (goodIn_of _ (by decide +kernel)) ggX12_lessons_X12_canLearn
theorem dX12_lessons_0 : decode cX12_lessons 0 = .ok (.iload_n 1, 1) := by decide +kernel
theorem dX12_lessons_1 : decode cX12_lessons 1 = .ok (.iconst (-1), 1) := by decide +kernel
theorem dX12_lessons_2 : decode cX12_lessons 2 = .ok (.iconst 4, 1) := by decide +kernel
theorem dX12_lessons_3 : decode cX12_lessons 3 = .ok (.invokestatic 68, 3) := by decide +kernel
theorem dX12_lessons_6 : decode cX12_lessons 6 = .ok (.ifCond .ne 6, 3) := by decide +kernel
theorem dX12_lessons_9 : decode cX12_lessons 9 = .ok (.bipush (-2), 2) := by decide +kernel
theorem dX12_lessons_11 : decode cX12_lessons 11 = .ok (.ireturn, 1) := by decide +kernel
theorem dX12_lessons_12 : decode cX12_lessons 12 = .ok (.aload_n 0, 1) := by decide +kernel
theorem dX12_lessons_13 : decode cX12_lessons 13 = .ok (.invokevirtual 472, 3) := by decide +kernel
theorem dX12_lessons_16 : decode cX12_lessons 16 = .ok (.iload_n 1, 1) := by decide +kernel
theorem dX12_lessons_17 : decode cX12_lessons 17 = .ok (.iconst (-1), 1) := by decide +kernel
theorem dX12_lessons_18 : decode cX12_lessons 18 = .ok (.if_icmp .eq 12, 3) := by decide +kernel
theorem dX12_lessons_21 : decode cX12_lessons 21 = .ok (.aload_n 0, 1) := by decide +kernel
theorem dX12_lessons_22 : decode cX12_lessons 22 = .ok (.getfield 61, 3) := by decide +kernel
theorem dX12_lessons_25 : decode cX12_lessons 25 = .ok (.iconst 0, 1) := by decide +kernel
theorem dX12_lessons_26 : decode cX12_lessons 26 = .ok (.iaload, 1) := by decide +kernel
theorem dX12_lessons_27 : decode cX12_lessons 27 = .ok (.ifCond .ne 20, 3) := by decide +kernel
theorem dX12_lessons_30 : decode cX12_lessons 30 = .ok (.iload_n 1, 1) := by decide +kernel
theorem dX12_lessons_31 : decode cX12_lessons 31 = .ok (.iconst (-1), 1) := by decide +kernel
theorem dX12_lessons_32 : decode cX12_lessons 32 = .ok (.if_icmp .ne 12, 3) := by decide +kernel
theorem dX12_lessons_35 : decode cX12_lessons 35 = .ok (.aload_n 0, 1) := by decide +kernel
theorem dX12_lessons_36 : decode cX12_lessons 36 = .ok (.getfield 61, 3) := by decide +kernel
theorem dX12_lessons_39 : decode cX12_lessons 39 = .ok (.iconst 0, 1) := by decide +kernel
theorem dX12_lessons_40 : decode cX12_lessons 40 = .ok (.iaload, 1) := by decide +kernel
theorem dX12_lessons_41 : decode cX12_lessons 41 = .ok (.goto 5, 3) := by decide +kernel
theorem dX12_lessons_44 : decode cX12_lessons 44 = .ok (.bipush (-2), 2) := by decide +kernel
theorem dX12_lessons_46 : decode cX12_lessons 46 = .ok (.ireturn, 1) := by decide +kernel
theorem dX12_lessons_47 : decode cX12_lessons 47 = .ok (.iconst 0, 1) := by decide +kernel
theorem dX12_lessons_48 : decode cX12_lessons 48 = .ok (.istore_n 2, 1) := by decide +kernel
theorem dX12_lessons_49 : decode cX12_lessons 49 = .ok (.iconst 0, 1) := by decide +kernel
theorem dX12_lessons_50 : decode cX12_lessons 50 = .ok (.istore_n 3, 1) := by decide +kernel
theorem dX12_lessons_51 : decode cX12_lessons 51 = .ok (.iconst 0, 1) := by decide +kernel
theorem dX12_lessons_52 : decode cX12_lessons 52 = .ok (.istore 4, 2) := by decide +kernel
theorem dX12_lessons_54 : decode cX12_lessons 54 = .ok (.iload 4, 2) := by decide +kernel
theorem dX12_lessons_56 : decode cX12_lessons 56 = .ok (.iload_n 1, 1) := by decide +kernel
theorem dX12_lessons_57 : decode cX12_lessons 57 = .ok (.if_icmp .gt 45, 3) := by decide +kernel
theorem dX12_lessons_60 : decode cX12_lessons 60 = .ok (.iconst 0, 1) := by decide +kernel
theorem dX12_lessons_61 : decode cX12_lessons 61 = .ok (.istore_n 3, 1) := by decide +kernel
theorem dX12_lessons_62 : decode cX12_lessons 62 = .ok (.aload_n 0, 1) := by decide +kernel
theorem dX12_lessons_63 : decode cX12_lessons 63 = .ok (.iload_n 3, 1) := by decide +kernel
theorem dX12_lessons_64 : decode cX12_lessons 64 = .ok (.iload_n 2, 1) := by decide +kernel
theorem dX12_lessons_65 : decode cX12_lessons 65 = .ok (.invokevirtual 469, 3) := by decide +kernel
theorem dX12_lessons_68 : decode cX12_lessons 68 = .ok (.ifCond .eq 16, 3) := by decide +kernel
theorem dX12_lessons_71 : decode cX12_lessons 71 = .ok (.aload_n 0, 1) := by decide +kernel
theorem dX12_lessons_72 : decode cX12_lessons 72 = .ok (.getfield 61, 3) := by decide +kernel
theorem dX12_lessons_75 : decode cX12_lessons 75 = .ok (.iload_n 2, 1) := by decide +kernel
theorem dX12_lessons_76 : decode cX12_lessons 76 = .ok (.iconst 1, 1) := by decide +kernel
theorem dX12_lessons_77 : decode cX12_lessons 77 = .ok (.iload_n 3, 1) := by decide +kernel
theorem dX12_lessons_78 : decode cX12_lessons 78 = .ok (.ishl, 1) := by decide +kernel
theorem dX12_lessons_79 : decode cX12_lessons 79 = .ok (.ior, 1) := by decide +kernel
theorem dX12_lessons_80 : decode cX12_lessons 80 = .ok (.iaload, 1) := by decide +kernel
theorem dX12_lessons_81 : decode cX12_lessons 81 = .ok (.ifCond .ne 9, 3) := by decide +kernel
theorem dX12_lessons_84 : decode cX12_lessons 84 = .ok (.iinc 3 1, 3) := by decide +kernel
theorem dX12_lessons_87 : decode cX12_lessons 87 = .ok (.goto (-25), 3) := by decide +kernel
theorem dX12_lessons_90 : decode cX12_lessons 90 = .ok (.iload_n 2, 1) := by decide +kernel
theorem dX12_lessons_91 : decode cX12_lessons 91 = .ok (.iconst 1, 1) := by decide +kernel
theorem dX12_lessons_92 : decode cX12_lessons 92 = .ok (.iload_n 3, 1) := by decide +kernel
theorem dX12_lessons_93 : decode cX12_lessons 93 = .ok (.ishl, 1) := by decide +kernel
theorem dX12_lessons_94 : decode cX12_lessons 94 = .ok (.ior, 1) := by decide +kernel
theorem dX12_lessons_95 : decode cX12_lessons 95 = .ok (.istore_n 2, 1) := by decide +kernel
theorem dX12_lessons_96 : decode cX12_lessons 96 = .ok (.iinc 4 1, 3) := by decide +kernel
theorem dX12_lessons_99 : decode cX12_lessons 99 = .ok (.goto (-45), 3) := by decide +kernel
theorem dX12_lessons_102 : decode cX12_lessons 102 = .ok (.iload_n 3, 1) := by decide +kernel
theorem dX12_lessons_103 : decode cX12_lessons 103 = .ok (.ireturn, 1) := by decide +kernel
set_option maxRecDepth 20000 in
theorem ggX12_grown_X12_isHouse : GoodIn wsX12_grown wsX12_isHouse := goodIn_r _ [6, 1, 7, 8, 5, 9, 10, 11, 12, 13, 14, 15, 16, 17, 18, 19, 20, 21, 22, 23, 24, 25, 26, 27, 28, 29, 30, 31, 32, 33, 34, 35, 36, 37, 38, 39, 40] rfl (by decide +kernel)
set_option maxRecDepth 20000 in
theorem gX12_grown_X12_isHouse : GoodIn wsX12_grown (wsV RX12 357 RX12 yX12_isHouse wsX12_isHouse) := goodIn_app (goodIn_of _ (by decide +kernel)) ggX12_grown_X12_isHouse
set_option maxRecDepth 20000 in
theorem ggX12_grown_X12_isIn : GoodIn wsX12_grown wsX12_isIn := goodIn_r _ [9] rfl (by decide +kernel)
set_option maxRecDepth 20000 in
theorem gX12_grown_X12_isIn : GoodIn wsX12_grown (va_wsS RX12 68 yX12_isIn wsX12_isIn) := goodIn_app (goodIn_of _ (by decide +kernel)) ggX12_grown_X12_isIn
theorem dX12_grown_0 : decode cX12_grown 0 = .ok (.iload_n 1, 1) := by decide +kernel
theorem dX12_grown_1 : decode cX12_grown 1 = .ok (.iconst (-1), 1) := by decide +kernel
theorem dX12_grown_2 : decode cX12_grown 2 = .ok (.if_icmp .ne 13, 3) := by decide +kernel
theorem dX12_grown_5 : decode cX12_grown 5 = .ok (.aload_n 0, 1) := by decide +kernel
theorem dX12_grown_6 : decode cX12_grown 6 = .ok (.getfield 7, 3) := by decide +kernel
theorem dX12_grown_9 : decode cX12_grown 9 = .ok (.bipush 6, 2) := by decide +kernel
theorem dX12_grown_11 : decode cX12_grown 11 = .ok (.iconst 0, 1) := by decide +kernel
theorem dX12_grown_12 : decode cX12_grown 12 = .ok (.iastore, 1) := by decide +kernel
theorem dX12_grown_13 : decode cX12_grown 13 = .ok (.iconst 0, 1) := by decide +kernel
theorem dX12_grown_14 : decode cX12_grown 14 = .ok (.ireturn, 1) := by decide +kernel
theorem dX12_grown_15 : decode cX12_grown 15 = .ok (.aload_n 0, 1) := by decide +kernel
theorem dX12_grown_16 : decode cX12_grown 16 = .ok (.iload_n 1, 1) := by decide +kernel
theorem dX12_grown_17 : decode cX12_grown 17 = .ok (.invokevirtual 357, 3) := by decide +kernel
theorem dX12_grown_20 : decode cX12_grown 20 = .ok (.ifCond .eq 25, 3) := by decide +kernel
theorem dX12_grown_23 : decode cX12_grown 23 = .ok (.iload_n 2, 1) := by decide +kernel
theorem dX12_grown_24 : decode cX12_grown 24 = .ok (.iconst 0, 1) := by decide +kernel
theorem dX12_grown_25 : decode cX12_grown 25 = .ok (.bipush 9, 2) := by decide +kernel
theorem dX12_grown_27 : decode cX12_grown 27 = .ok (.invokestatic 68, 3) := by decide +kernel
theorem dX12_grown_30 : decode cX12_grown 30 = .ok (.ifCond .eq 15, 3) := by decide +kernel
theorem dX12_grown_33 : decode cX12_grown 33 = .ok (.aload_n 0, 1) := by decide +kernel
theorem dX12_grown_34 : decode cX12_grown 34 = .ok (.getfield 7, 3) := by decide +kernel
theorem dX12_grown_37 : decode cX12_grown 37 = .ok (.bipush 6, 2) := by decide +kernel
theorem dX12_grown_39 : decode cX12_grown 39 = .ok (.iaload, 1) := by decide +kernel
theorem dX12_grown_40 : decode cX12_grown 40 = .ok (.bipush 8, 2) := by decide +kernel
theorem dX12_grown_42 : decode cX12_grown 42 = .ok (.if_icmp .ne 6, 3) := by decide +kernel
theorem dX12_grown_45 : decode cX12_grown 45 = .ok (.bipush (-2), 2) := by decide +kernel
theorem dX12_grown_47 : decode cX12_grown 47 = .ok (.ireturn, 1) := by decide +kernel
theorem dX12_grown_48 : decode cX12_grown 48 = .ok (.aload_n 0, 1) := by decide +kernel
theorem dX12_grown_49 : decode cX12_grown 49 = .ok (.getfield 7, 3) := by decide +kernel
theorem dX12_grown_52 : decode cX12_grown 52 = .ok (.sipush 188, 3) := by decide +kernel
theorem dX12_grown_55 : decode cX12_grown 55 = .ok (.iconst 2, 1) := by decide +kernel
theorem dX12_grown_56 : decode cX12_grown 56 = .ok (.aload_n 0, 1) := by decide +kernel
theorem dX12_grown_57 : decode cX12_grown 57 = .ok (.getfield 7, 3) := by decide +kernel
theorem dX12_grown_60 : decode cX12_grown 60 = .ok (.bipush 6, 2) := by decide +kernel
theorem dX12_grown_62 : decode cX12_grown 62 = .ok (.iaload, 1) := by decide +kernel
theorem dX12_grown_63 : decode cX12_grown 63 = .ok (.imul, 1) := by decide +kernel
theorem dX12_grown_64 : decode cX12_grown 64 = .ok (.iadd, 1) := by decide +kernel
theorem dX12_grown_65 : decode cX12_grown 65 = .ok (.iload_n 1, 1) := by decide +kernel
theorem dX12_grown_66 : decode cX12_grown 66 = .ok (.iastore, 1) := by decide +kernel
theorem dX12_grown_67 : decode cX12_grown 67 = .ok (.aload_n 0, 1) := by decide +kernel
theorem dX12_grown_68 : decode cX12_grown 68 = .ok (.getfield 7, 3) := by decide +kernel
theorem dX12_grown_71 : decode cX12_grown 71 = .ok (.sipush 188, 3) := by decide +kernel
theorem dX12_grown_74 : decode cX12_grown 74 = .ok (.iconst 2, 1) := by decide +kernel
theorem dX12_grown_75 : decode cX12_grown 75 = .ok (.aload_n 0, 1) := by decide +kernel
theorem dX12_grown_76 : decode cX12_grown 76 = .ok (.getfield 7, 3) := by decide +kernel
theorem dX12_grown_79 : decode cX12_grown 79 = .ok (.bipush 6, 2) := by decide +kernel
theorem dX12_grown_81 : decode cX12_grown 81 = .ok (.iaload, 1) := by decide +kernel
theorem dX12_grown_82 : decode cX12_grown 82 = .ok (.imul, 1) := by decide +kernel
theorem dX12_grown_83 : decode cX12_grown 83 = .ok (.iadd, 1) := by decide +kernel
theorem dX12_grown_84 : decode cX12_grown 84 = .ok (.iconst 1, 1) := by decide +kernel
theorem dX12_grown_85 : decode cX12_grown 85 = .ok (.iadd, 1) := by decide +kernel
theorem dX12_grown_86 : decode cX12_grown 86 = .ok (.iload_n 2, 1) := by decide +kernel
theorem dX12_grown_87 : decode cX12_grown 87 = .ok (.iastore, 1) := by decide +kernel
theorem dX12_grown_88 : decode cX12_grown 88 = .ok (.aload_n 0, 1) := by decide +kernel
theorem dX12_grown_89 : decode cX12_grown 89 = .ok (.getfield 7, 3) := by decide +kernel
theorem dX12_grown_92 : decode cX12_grown 92 = .ok (.bipush 6, 2) := by decide +kernel
theorem dX12_grown_94 : decode cX12_grown 94 = .ok (.dup2, 1) := by decide +kernel
theorem dX12_grown_95 : decode cX12_grown 95 = .ok (.iaload, 1) := by decide +kernel
theorem dX12_grown_96 : decode cX12_grown 96 = .ok (.iconst 1, 1) := by decide +kernel
theorem dX12_grown_97 : decode cX12_grown 97 = .ok (.iadd, 1) := by decide +kernel
theorem dX12_grown_98 : decode cX12_grown 98 = .ok (.iastore, 1) := by decide +kernel
theorem dX12_grown_99 : decode cX12_grown 99 = .ok (.aload_n 0, 1) := by decide +kernel
theorem dX12_grown_100 : decode cX12_grown 100 = .ok (.getfield 7, 3) := by decide +kernel
theorem dX12_grown_103 : decode cX12_grown 103 = .ok (.bipush 6, 2) := by decide +kernel
theorem dX12_grown_105 : decode cX12_grown 105 = .ok (.iaload, 1) := by decide +kernel
theorem dX12_grown_106 : decode cX12_grown 106 = .ok (.ireturn, 1) := by decide +kernel
set_option maxRecDepth 20000 in
theorem ggX12_whose_X12_growsOf : GoodIn wsX12_whose wsX12_growsOf := goodIn_r _ [6, 7, 8, 9, 10, 5, 11, 1, 12, 13, 14, 15, 16, 17, 18, 19, 20, 21, 22, 23, 24, 25, 26, 27, 28, 29, 30, 31, 32, 33, 34, 35, 36, 37, 38, 39, 40, 41, 42, 43, 44, 45, 46, 47, 48, 49, 50, 51, 52, 53, 54, 55, 56, 57, 58, 59, 60, 61, 62, 63, 64, 65, 66, 67, 68, 69, 70, 71, 72, 73, 74, 75, 76, 77, 78, 79, 80, 81, 82, 83, 84, 85, 86, 87, 88, 89, 90, 91, 92] rfl (by decide +kernel)
set_option maxRecDepth 20000 in
theorem gX12_whose_X12_growsOf : GoodIn wsX12_whose (wsV RX12 351 RX12 yX12_growsOf wsX12_growsOf) := goodIn_app (goodIn_of _ (by decide +kernel)) ggX12_whose_X12_growsOf
theorem dX12_whose_0 : decode cX12_whose 0 = .ok (.iconst 0, 1) := by decide +kernel
theorem dX12_whose_1 : decode cX12_whose 1 = .ok (.istore_n 1, 1) := by decide +kernel
theorem dX12_whose_2 : decode cX12_whose 2 = .ok (.iconst 0, 1) := by decide +kernel
theorem dX12_whose_3 : decode cX12_whose 3 = .ok (.istore_n 2, 1) := by decide +kernel
theorem dX12_whose_4 : decode cX12_whose 4 = .ok (.iload_n 2, 1) := by decide +kernel
theorem dX12_whose_5 : decode cX12_whose 5 = .ok (.aload_n 0, 1) := by decide +kernel
theorem dX12_whose_6 : decode cX12_whose 6 = .ok (.getfield 7, 3) := by decide +kernel
theorem dX12_whose_9 : decode cX12_whose 9 = .ok (.iconst 2, 1) := by decide +kernel
theorem dX12_whose_10 : decode cX12_whose 10 = .ok (.iaload, 1) := by decide +kernel
theorem dX12_whose_11 : decode cX12_whose 11 = .ok (.if_icmp .ge 92, 3) := by decide +kernel
theorem dX12_whose_14 : decode cX12_whose 14 = .ok (.iconst 1, 1) := by decide +kernel
theorem dX12_whose_15 : decode cX12_whose 15 = .ok (.istore_n 3, 1) := by decide +kernel
theorem dX12_whose_16 : decode cX12_whose 16 = .ok (.iconst 0, 1) := by decide +kernel
theorem dX12_whose_17 : decode cX12_whose 17 = .ok (.istore 4, 2) := by decide +kernel
theorem dX12_whose_19 : decode cX12_whose 19 = .ok (.iload 4, 2) := by decide +kernel
theorem dX12_whose_21 : decode cX12_whose 21 = .ok (.aload_n 0, 1) := by decide +kernel
theorem dX12_whose_22 : decode cX12_whose 22 = .ok (.getfield 7, 3) := by decide +kernel
theorem dX12_whose_25 : decode cX12_whose 25 = .ok (.bipush 6, 2) := by decide +kernel
theorem dX12_whose_27 : decode cX12_whose 27 = .ok (.iaload, 1) := by decide +kernel
theorem dX12_whose_28 : decode cX12_whose 28 = .ok (.if_icmp .ge 55, 3) := by decide +kernel
theorem dX12_whose_31 : decode cX12_whose 31 = .ok (.iload_n 3, 1) := by decide +kernel
theorem dX12_whose_32 : decode cX12_whose 32 = .ok (.ifCond .eq 43, 3) := by decide +kernel
theorem dX12_whose_35 : decode cX12_whose 35 = .ok (.aload_n 0, 1) := by decide +kernel
theorem dX12_whose_36 : decode cX12_whose 36 = .ok (.iload_n 2, 1) := by decide +kernel
theorem dX12_whose_37 : decode cX12_whose 37 = .ok (.aload_n 0, 1) := by decide +kernel
theorem dX12_whose_38 : decode cX12_whose 38 = .ok (.getfield 7, 3) := by decide +kernel
theorem dX12_whose_41 : decode cX12_whose 41 = .ok (.sipush 188, 3) := by decide +kernel
theorem dX12_whose_44 : decode cX12_whose 44 = .ok (.iconst 2, 1) := by decide +kernel
theorem dX12_whose_45 : decode cX12_whose 45 = .ok (.iload 4, 2) := by decide +kernel
theorem dX12_whose_47 : decode cX12_whose 47 = .ok (.imul, 1) := by decide +kernel
theorem dX12_whose_48 : decode cX12_whose 48 = .ok (.iadd, 1) := by decide +kernel
theorem dX12_whose_49 : decode cX12_whose 49 = .ok (.iaload, 1) := by decide +kernel
theorem dX12_whose_50 : decode cX12_whose 50 = .ok (.invokevirtual 351, 3) := by decide +kernel
theorem dX12_whose_53 : decode cX12_whose 53 = .ok (.aload_n 0, 1) := by decide +kernel
theorem dX12_whose_54 : decode cX12_whose 54 = .ok (.getfield 7, 3) := by decide +kernel
theorem dX12_whose_57 : decode cX12_whose 57 = .ok (.sipush 188, 3) := by decide +kernel
theorem dX12_whose_60 : decode cX12_whose 60 = .ok (.iconst 2, 1) := by decide +kernel
theorem dX12_whose_61 : decode cX12_whose 61 = .ok (.iload 4, 2) := by decide +kernel
theorem dX12_whose_63 : decode cX12_whose 63 = .ok (.imul, 1) := by decide +kernel
theorem dX12_whose_64 : decode cX12_whose 64 = .ok (.iadd, 1) := by decide +kernel
theorem dX12_whose_65 : decode cX12_whose 65 = .ok (.iconst 1, 1) := by decide +kernel
theorem dX12_whose_66 : decode cX12_whose 66 = .ok (.iadd, 1) := by decide +kernel
theorem dX12_whose_67 : decode cX12_whose 67 = .ok (.iaload, 1) := by decide +kernel
theorem dX12_whose_68 : decode cX12_whose 68 = .ok (.if_icmp .ne 7, 3) := by decide +kernel
theorem dX12_whose_71 : decode cX12_whose 71 = .ok (.iconst 1, 1) := by decide +kernel
theorem dX12_whose_72 : decode cX12_whose 72 = .ok (.goto 4, 3) := by decide +kernel
theorem dX12_whose_75 : decode cX12_whose 75 = .ok (.iconst 0, 1) := by decide +kernel
theorem dX12_whose_76 : decode cX12_whose 76 = .ok (.istore_n 3, 1) := by decide +kernel
theorem dX12_whose_77 : decode cX12_whose 77 = .ok (.iinc 4 1, 3) := by decide +kernel
theorem dX12_whose_80 : decode cX12_whose 80 = .ok (.goto (-61), 3) := by decide +kernel
theorem dX12_whose_83 : decode cX12_whose 83 = .ok (.iload_n 1, 1) := by decide +kernel
theorem dX12_whose_84 : decode cX12_whose 84 = .ok (.iload_n 3, 1) := by decide +kernel
theorem dX12_whose_85 : decode cX12_whose 85 = .ok (.ifCond .eq 9, 3) := by decide +kernel
theorem dX12_whose_88 : decode cX12_whose 88 = .ok (.iconst 1, 1) := by decide +kernel
theorem dX12_whose_89 : decode cX12_whose 89 = .ok (.iload_n 2, 1) := by decide +kernel
theorem dX12_whose_90 : decode cX12_whose 90 = .ok (.ishl, 1) := by decide +kernel
theorem dX12_whose_91 : decode cX12_whose 91 = .ok (.goto 4, 3) := by decide +kernel
theorem dX12_whose_94 : decode cX12_whose 94 = .ok (.iconst 0, 1) := by decide +kernel
theorem dX12_whose_95 : decode cX12_whose 95 = .ok (.ior, 1) := by decide +kernel
theorem dX12_whose_96 : decode cX12_whose 96 = .ok (.istore_n 1, 1) := by decide +kernel
theorem dX12_whose_97 : decode cX12_whose 97 = .ok (.iinc 2 1, 3) := by decide +kernel
theorem dX12_whose_100 : decode cX12_whose 100 = .ok (.goto (-96), 3) := by decide +kernel
theorem dX12_whose_103 : decode cX12_whose 103 = .ok (.iload_n 1, 1) := by decide +kernel
theorem dX12_whose_104 : decode cX12_whose 104 = .ok (.ireturn, 1) := by decide +kernel
set_option maxRecDepth 20000 in
theorem ggX12_image_X12_copy : GoodIn wsX12_image wsX12_copy := goodIn_r _ [6] rfl (by decide +kernel)
set_option maxRecDepth 20000 in
theorem gX12_image_X12_copy : GoodIn wsX12_image (va_wsS RX12 64 yX12_copy wsX12_copy) := goodIn_app (goodIn_of _ (by decide +kernel)) ggX12_image_X12_copy
theorem dX12_image_0 : decode cX12_image 0 = .ok (.aload_n 0, 1) := by decide +kernel
theorem dX12_image_1 : decode cX12_image 1 = .ok (.getfield 7, 3) := by decide +kernel
theorem dX12_image_4 : decode cX12_image 4 = .ok (.aload_n 0, 1) := by decide +kernel
theorem dX12_image_5 : decode cX12_image 5 = .ok (.getfield 13, 3) := by decide +kernel
theorem dX12_image_8 : decode cX12_image 8 = .ok (.invokestatic 64, 3) := by decide +kernel
theorem dX12_image_11 : decode cX12_image 11 = .ok (.aload_n 0, 1) := by decide +kernel
theorem dX12_image_12 : decode cX12_image 12 = .ok (.getfield 7, 3) := by decide +kernel
theorem dX12_image_15 : decode cX12_image 15 = .ok (.bipush 7, 2) := by decide +kernel
theorem dX12_image_17 : decode cX12_image 17 = .ok (.iaload, 1) := by decide +kernel
theorem dX12_image_18 : decode cX12_image 18 = .ok (.ireturn, 1) := by decide +kernel
set_option maxRecDepth 20000 in
theorem ggX12_back_X12_copy : GoodIn wsX12_back wsX12_copy := goodIn_r _ [6] rfl (by decide +kernel)
set_option maxRecDepth 20000 in
theorem gX12_back_X12_copy : GoodIn wsX12_back (va_wsS RX12 64 yX12_copy wsX12_copy) := goodIn_app (goodIn_of _ (by decide +kernel)) ggX12_back_X12_copy
theorem dX12_back_0 : decode cX12_back 0 = .ok (.aload_n 0, 1) := by decide +kernel
theorem dX12_back_1 : decode cX12_back 1 = .ok (.getfield 13, 3) := by decide +kernel
theorem dX12_back_4 : decode cX12_back 4 = .ok (.aload_n 0, 1) := by decide +kernel
theorem dX12_back_5 : decode cX12_back 5 = .ok (.getfield 7, 3) := by decide +kernel
theorem dX12_back_8 : decode cX12_back 8 = .ok (.invokestatic 64, 3) := by decide +kernel
theorem dX12_back_11 : decode cX12_back 11 = .ok (.aload_n 0, 1) := by decide +kernel
theorem dX12_back_12 : decode cX12_back 12 = .ok (.getfield 7, 3) := by decide +kernel
theorem dX12_back_15 : decode cX12_back 15 = .ok (.bipush 7, 2) := by decide +kernel
theorem dX12_back_17 : decode cX12_back 17 = .ok (.iaload, 1) := by decide +kernel
theorem dX12_back_18 : decode cX12_back 18 = .ok (.ireturn, 1) := by decide +kernel
set_option maxRecDepth 20000 in
theorem ggX12_about_X12_isIn : GoodIn wsX12_about wsX12_isIn := goodIn_r _ [6] rfl (by decide +kernel)
set_option maxRecDepth 20000 in
theorem gX12_about_X12_isIn : GoodIn wsX12_about (va_wsS RX12 68 yX12_isIn wsX12_isIn) := goodIn_app (goodIn_of _ (by decide +kernel)) ggX12_about_X12_isIn
theorem dX12_about_0 : decode cX12_about 0 = .ok (.iload_n 1, 1) := by decide +kernel
theorem dX12_about_1 : decode cX12_about 1 = .ok (.iconst 0, 1) := by decide +kernel
theorem dX12_about_2 : decode cX12_about 2 = .ok (.bipush 6, 2) := by decide +kernel
theorem dX12_about_4 : decode cX12_about 4 = .ok (.invokestatic 68, 3) := by decide +kernel
theorem dX12_about_7 : decode cX12_about 7 = .ok (.ifCond .eq 12, 3) := by decide +kernel
theorem dX12_about_10 : decode cX12_about 10 = .ok (.aload_n 0, 1) := by decide +kernel
theorem dX12_about_11 : decode cX12_about 11 = .ok (.getfield 7, 3) := by decide +kernel
theorem dX12_about_14 : decode cX12_about 14 = .ok (.iload_n 1, 1) := by decide +kernel
theorem dX12_about_15 : decode cX12_about 15 = .ok (.iaload, 1) := by decide +kernel
theorem dX12_about_16 : decode cX12_about 16 = .ok (.goto 18, 3) := by decide +kernel
theorem dX12_about_19 : decode cX12_about 19 = .ok (.iload_n 1, 1) := by decide +kernel
theorem dX12_about_20 : decode cX12_about 20 = .ok (.bipush 7, 2) := by decide +kernel
theorem dX12_about_22 : decode cX12_about 22 = .ok (.if_icmp .ne 10, 3) := by decide +kernel
theorem dX12_about_25 : decode cX12_about 25 = .ok (.aload_n 0, 1) := by decide +kernel
theorem dX12_about_26 : decode cX12_about 26 = .ok (.getfield 97, 3) := by decide +kernel
theorem dX12_about_29 : decode cX12_about 29 = .ok (.goto 5, 3) := by decide +kernel
theorem dX12_about_32 : decode cX12_about 32 = .ok (.bipush (-2), 2) := by decide +kernel
theorem dX12_about_34 : decode cX12_about 34 = .ok (.ireturn, 1) := by decide +kernel
