theorem dX12_summedUp_374 : decode cX12_summedUp 374 = .ok (.goto 4, 3) := by decide +kernel
theorem dX12_summedUp_377 : decode cX12_summedUp 377 = .ok (.iconst 0, 1) := by decide +kernel
theorem dX12_summedUp_378 : decode cX12_summedUp 378 = .ok (.bastore, 1) := by decide +kernel
theorem dX12_summedUp_379 : decode cX12_summedUp 379 = .ok (.goto 36, 3) := by decide +kernel
theorem dX12_summedUp_382 : decode cX12_summedUp 382 = .ok (.iinc 6 (-1), 3) := by decide +kernel
theorem dX12_summedUp_385 : decode cX12_summedUp 385 = .ok (.aload_n 0, 1) := by decide +kernel
theorem dX12_summedUp_386 : decode cX12_summedUp 386 = .ok (.getfield 39, 3) := by decide +kernel
theorem dX12_summedUp_389 : decode cX12_summedUp 389 = .ok (.iload 6, 2) := by decide +kernel
theorem dX12_summedUp_391 : decode cX12_summedUp 391 = .ok (.iconst 1, 1) := by decide +kernel
theorem dX12_summedUp_392 : decode cX12_summedUp 392 = .ok (.isub, 1) := by decide +kernel
theorem dX12_summedUp_393 : decode cX12_summedUp 393 = .ok (.iload 8, 2) := by decide +kernel
theorem dX12_summedUp_395 : decode cX12_summedUp 395 = .ok (.aload_n 0, 1) := by decide +kernel
theorem dX12_summedUp_396 : decode cX12_summedUp 396 = .ok (.getfield 39, 3) := by decide +kernel
theorem dX12_summedUp_399 : decode cX12_summedUp 399 = .ok (.iload 6, 2) := by decide +kernel
theorem dX12_summedUp_401 : decode cX12_summedUp 401 = .ok (.iconst 1, 1) := by decide +kernel
theorem dX12_summedUp_402 : decode cX12_summedUp 402 = .ok (.isub, 1) := by decide +kernel
theorem dX12_summedUp_403 : decode cX12_summedUp 403 = .ok (.baload, 1) := by decide +kernel
theorem dX12_summedUp_404 : decode cX12_summedUp 404 = .ok (.aload_n 0, 1) := by decide +kernel
theorem dX12_summedUp_405 : decode cX12_summedUp 405 = .ok (.getfield 39, 3) := by decide +kernel
theorem dX12_summedUp_408 : decode cX12_summedUp 408 = .ok (.iload 6, 2) := by decide +kernel
theorem dX12_summedUp_410 : decode cX12_summedUp 410 = .ok (.baload, 1) := by decide +kernel
theorem dX12_summedUp_411 : decode cX12_summedUp 411 = .ok (.invokestatic 298, 3) := by decide +kernel
theorem dX12_summedUp_414 : decode cX12_summedUp 414 = .ok (.bastore, 1) := by decide +kernel
theorem dX12_summedUp_415 : decode cX12_summedUp 415 = .ok (.iinc 7 1, 3) := by decide +kernel
theorem dX12_summedUp_418 : decode cX12_summedUp 418 = .ok (.goto (-380), 3) := by decide +kernel
theorem dX12_summedUp_421 : decode cX12_summedUp 421 = .ok (.aload_n 0, 1) := by decide +kernel
theorem dX12_summedUp_422 : decode cX12_summedUp 422 = .ok (.getfield 35, 3) := by decide +kernel
theorem dX12_summedUp_425 : decode cX12_summedUp 425 = .ok (.iconst 0, 1) := by decide +kernel
theorem dX12_summedUp_426 : decode cX12_summedUp 426 = .ok (.laload, 1) := by decide +kernel
theorem dX12_summedUp_427 : decode cX12_summedUp 427 = .ok (.lreturn, 1) := by decide +kernel
set_option maxRecDepth 20000 in
theorem ggX12_says_X12_summedUp : GoodIn wsX12_says wsX12_summedUp := goodIn_r _ [6, 1, 7, 8, 9, 10, 11, 5, 12, 13, 14, 15, 16, 17, 18, 19, 20, 21, 22, 23, 24, 25, 26, 27, 28, 29, 30, 31, 32, 33, 34, 35, 39, 40, 41, 42, 43, 44, 45, 46, 47, 48, 49, 50, 51, 52, 53, 54, 55, 56, 57, 58, 59, 60, 61, 62, 63, 64, 65, 66, 67, 68, 69] rfl (by decide +kernel)
set_option maxRecDepth 20000 in
theorem gX12_says_X12_summedUp : GoodIn wsX12_says (wsV RX12 302 RX12 yX12_summedUp wsX12_summedUp) := goodIn_app (goodIn_of _ (by decide +kernel)) ggX12_says_X12_summedUp
set_option maxRecDepth 20000 in
theorem ggX12_says_X12_cut : GoodIn wsX12_says wsX12_cut := goodIn_r _ [38] rfl (by decide +kernel)
set_option maxRecDepth 20000 in
theorem gX12_says_X12_cut : GoodIn wsX12_says (va_wsS RX12 305 yX12_cut wsX12_cut) := goodIn_app (goodIn_of _ (by decide +kernel)) ggX12_says_X12_cut
theorem dX12_says_0 : decode cX12_says 0 = .ok (.iconst 0, 1) := by decide +kernel
theorem dX12_says_1 : decode cX12_says 1 = .ok (.istore 5, 2) := by decide +kernel
theorem dX12_says_3 : decode cX12_says 3 = .ok (.iload_n 1, 1) := by decide +kernel
theorem dX12_says_4 : decode cX12_says 4 = .ok (.ifCond .lt 59, 3) := by decide +kernel
theorem dX12_says_7 : decode cX12_says 7 = .ok (.iload 5, 2) := by decide +kernel
theorem dX12_says_9 : decode cX12_says 9 = .ok (.aload_n 0, 1) := by decide +kernel
theorem dX12_says_10 : decode cX12_says 10 = .ok (.getfield 16, 3) := by decide +kernel
theorem dX12_says_13 : decode cX12_says 13 = .ok (.sipush 705, 3) := by decide +kernel
theorem dX12_says_16 : decode cX12_says 16 = .ok (.iload_n 1, 1) := by decide +kernel
theorem dX12_says_17 : decode cX12_says 17 = .ok (.imul, 1) := by decide +kernel
theorem dX12_says_18 : decode cX12_says 18 = .ok (.iaload, 1) := by decide +kernel
theorem dX12_says_19 : decode cX12_says 19 = .ok (.if_icmp .ge 44, 3) := by decide +kernel
theorem dX12_says_22 : decode cX12_says 22 = .ok (.aload_n 0, 1) := by decide +kernel
theorem dX12_says_23 : decode cX12_says 23 = .ok (.getfield 16, 3) := by decide +kernel
theorem dX12_says_26 : decode cX12_says 26 = .ok (.sipush 705, 3) := by decide +kernel
theorem dX12_says_29 : decode cX12_says 29 = .ok (.iload_n 1, 1) := by decide +kernel
theorem dX12_says_30 : decode cX12_says 30 = .ok (.imul, 1) := by decide +kernel
theorem dX12_says_31 : decode cX12_says 31 = .ok (.iconst 1, 1) := by decide +kernel
theorem dX12_says_32 : decode cX12_says 32 = .ok (.iadd, 1) := by decide +kernel
theorem dX12_says_33 : decode cX12_says 33 = .ok (.iconst 4, 1) := by decide +kernel
theorem dX12_says_34 : decode cX12_says 34 = .ok (.iload 5, 2) := by decide +kernel
theorem dX12_says_36 : decode cX12_says 36 = .ok (.imul, 1) := by decide +kernel
theorem dX12_says_37 : decode cX12_says 37 = .ok (.iadd, 1) := by decide +kernel
theorem dX12_says_38 : decode cX12_says 38 = .ok (.iaload, 1) := by decide +kernel
theorem dX12_says_39 : decode cX12_says 39 = .ok (.iload_n 2, 1) := by decide +kernel
theorem dX12_says_40 : decode cX12_says 40 = .ok (.if_icmp .ne 17, 3) := by decide +kernel
theorem dX12_says_43 : decode cX12_says 43 = .ok (.aload_n 0, 1) := by decide +kernel
theorem dX12_says_44 : decode cX12_says 44 = .ok (.iload_n 1, 1) := by decide +kernel
theorem dX12_says_45 : decode cX12_says 45 = .ok (.iload 5, 2) := by decide +kernel
theorem dX12_says_47 : decode cX12_says 47 = .ok (.invokevirtual 302, 3) := by decide +kernel
theorem dX12_says_50 : decode cX12_says 50 = .ok (.iconst 0, 1) := by decide +kernel
theorem dX12_says_51 : decode cX12_says 51 = .ok (.iload 4, 2) := by decide +kernel
theorem dX12_says_53 : decode cX12_says 53 = .ok (.invokestatic 305, 3) := by decide +kernel
theorem dX12_says_56 : decode cX12_says 56 = .ok (.ireturn, 1) := by decide +kernel
theorem dX12_says_57 : decode cX12_says 57 = .ok (.iinc 5 1, 3) := by decide +kernel
theorem dX12_says_60 : decode cX12_says 60 = .ok (.goto (-57), 3) := by decide +kernel
theorem dX12_says_63 : decode cX12_says 63 = .ok (.iload_n 3, 1) := by decide +kernel
theorem dX12_says_64 : decode cX12_says 64 = .ok (.i2l, 1) := by decide +kernel
theorem dX12_says_65 : decode cX12_says 65 = .ok (.iconst 0, 1) := by decide +kernel
theorem dX12_says_66 : decode cX12_says 66 = .ok (.iload 4, 2) := by decide +kernel
theorem dX12_says_68 : decode cX12_says 68 = .ok (.invokestatic 305, 3) := by decide +kernel
theorem dX12_says_71 : decode cX12_says 71 = .ok (.ireturn, 1) := by decide +kernel
set_option maxRecDepth 20000 in
theorem ggX12_nameHouse_X12_get : GoodIn wsX12_nameHouse wsX12_get := goodIn_r _ [7, 2, 8, 9, 10, 11, 12, 13, 14, 15, 16, 17, 18, 19, 20, 21, 22, 23, 24, 25, 26, 27, 28, 29, 30, 31, 32, 33, 34, 35, 36, 37, 38] rfl (by decide +kernel)
set_option maxRecDepth 20000 in
theorem gX12_nameHouse_X12_get : GoodIn wsX12_nameHouse (wsV RX12 84 RX12 yX12_get wsX12_get) := goodIn_app (goodIn_of _ (by decide +kernel)) ggX12_nameHouse_X12_get
theorem dX12_nameHouse_0 : decode cX12_nameHouse 0 = .ok (.aload_n 0, 1) := by decide +kernel
theorem dX12_nameHouse_1 : decode cX12_nameHouse 1 = .ok (.getfield 32, 3) := by decide +kernel
theorem dX12_nameHouse_4 : decode cX12_nameHouse 4 = .ok (.iconst 0, 1) := by decide +kernel
theorem dX12_nameHouse_5 : decode cX12_nameHouse 5 = .ok (.aload_n 0, 1) := by decide +kernel
theorem dX12_nameHouse_6 : decode cX12_nameHouse 6 = .ok (.getfield 7, 3) := by decide +kernel
theorem dX12_nameHouse_9 : decode cX12_nameHouse 9 = .ok (.bipush 7, 2) := by decide +kernel
theorem dX12_nameHouse_11 : decode cX12_nameHouse 11 = .ok (.iaload, 1) := by decide +kernel
theorem dX12_nameHouse_12 : decode cX12_nameHouse 12 = .ok (.iastore, 1) := by decide +kernel
theorem dX12_nameHouse_13 : decode cX12_nameHouse 13 = .ok (.aload_n 0, 1) := by decide +kernel
theorem dX12_nameHouse_14 : decode cX12_nameHouse 14 = .ok (.getfield 32, 3) := by decide +kernel
theorem dX12_nameHouse_17 : decode cX12_nameHouse 17 = .ok (.iconst 1, 1) := by decide +kernel
theorem dX12_nameHouse_18 : decode cX12_nameHouse 18 = .ok (.aload_n 0, 1) := by decide +kernel
theorem dX12_nameHouse_19 : decode cX12_nameHouse 19 = .ok (.iload_n 1, 1) := by decide +kernel
theorem dX12_nameHouse_20 : decode cX12_nameHouse 20 = .ok (.iconst 4, 1) := by decide +kernel
theorem dX12_nameHouse_21 : decode cX12_nameHouse 21 = .ok (.invokevirtual 84, 3) := by decide +kernel
theorem dX12_nameHouse_24 : decode cX12_nameHouse 24 = .ok (.iastore, 1) := by decide +kernel
theorem dX12_nameHouse_25 : decode cX12_nameHouse 25 = .ok (.aload_n 0, 1) := by decide +kernel
theorem dX12_nameHouse_26 : decode cX12_nameHouse 26 = .ok (.getfield 32, 3) := by decide +kernel
theorem dX12_nameHouse_29 : decode cX12_nameHouse 29 = .ok (.iconst 2, 1) := by decide +kernel
theorem dX12_nameHouse_30 : decode cX12_nameHouse 30 = .ok (.aload_n 0, 1) := by decide +kernel
theorem dX12_nameHouse_31 : decode cX12_nameHouse 31 = .ok (.iload_n 1, 1) := by decide +kernel
theorem dX12_nameHouse_32 : decode cX12_nameHouse 32 = .ok (.iconst 0, 1) := by decide +kernel
theorem dX12_nameHouse_33 : decode cX12_nameHouse 33 = .ok (.invokevirtual 84, 3) := by decide +kernel
theorem dX12_nameHouse_36 : decode cX12_nameHouse 36 = .ok (.iastore, 1) := by decide +kernel
theorem dX12_nameHouse_37 : decode cX12_nameHouse 37 = .ok (.aload_n 0, 1) := by decide +kernel
theorem dX12_nameHouse_38 : decode cX12_nameHouse 38 = .ok (.getfield 32, 3) := by decide +kernel
theorem dX12_nameHouse_41 : decode cX12_nameHouse 41 = .ok (.iconst 3, 1) := by decide +kernel
theorem dX12_nameHouse_42 : decode cX12_nameHouse 42 = .ok (.aload_n 0, 1) := by decide +kernel
theorem dX12_nameHouse_43 : decode cX12_nameHouse 43 = .ok (.iload_n 1, 1) := by decide +kernel
theorem dX12_nameHouse_44 : decode cX12_nameHouse 44 = .ok (.iconst 1, 1) := by decide +kernel
theorem dX12_nameHouse_45 : decode cX12_nameHouse 45 = .ok (.invokevirtual 84, 3) := by decide +kernel
theorem dX12_nameHouse_48 : decode cX12_nameHouse 48 = .ok (.iastore, 1) := by decide +kernel
theorem dX12_nameHouse_49 : decode cX12_nameHouse 49 = .ok (.aload_n 0, 1) := by decide +kernel
theorem dX12_nameHouse_50 : decode cX12_nameHouse 50 = .ok (.getfield 32, 3) := by decide +kernel
theorem dX12_nameHouse_53 : decode cX12_nameHouse 53 = .ok (.iconst 4, 1) := by decide +kernel
theorem dX12_nameHouse_54 : decode cX12_nameHouse 54 = .ok (.aload_n 0, 1) := by decide +kernel
theorem dX12_nameHouse_55 : decode cX12_nameHouse 55 = .ok (.iload_n 1, 1) := by decide +kernel
theorem dX12_nameHouse_56 : decode cX12_nameHouse 56 = .ok (.iconst 3, 1) := by decide +kernel
theorem dX12_nameHouse_57 : decode cX12_nameHouse 57 = .ok (.invokevirtual 84, 3) := by decide +kernel
theorem dX12_nameHouse_60 : decode cX12_nameHouse 60 = .ok (.iastore, 1) := by decide +kernel
theorem dX12_nameHouse_61 : decode cX12_nameHouse 61 = .ok (.aload_n 0, 1) := by decide +kernel
theorem dX12_nameHouse_62 : decode cX12_nameHouse 62 = .ok (.getfield 32, 3) := by decide +kernel
theorem dX12_nameHouse_65 : decode cX12_nameHouse 65 = .ok (.iconst 5, 1) := by decide +kernel
theorem dX12_nameHouse_66 : decode cX12_nameHouse 66 = .ok (.iload_n 1, 1) := by decide +kernel
theorem dX12_nameHouse_67 : decode cX12_nameHouse 67 = .ok (.iastore, 1) := by decide +kernel
theorem dX12_nameHouse_68 : decode cX12_nameHouse 68 = .ok (.return_, 1) := by decide +kernel
set_option maxRecDepth 20000 in
theorem ggX12_nameFall_X12_own : GoodIn wsX12_nameFall wsX12_own := goodIn_r _ [6, 7, 16, 17, 18, 19, 20, 21, 22, 23, 24, 25, 26, 27, 28, 29, 30, 31, 32, 33, 34, 35, 36, 37, 38, 39, 40, 41, 42, 43, 44, 45, 46] rfl (by decide +kernel)
set_option maxRecDepth 20000 in
theorem gX12_nameFall_X12_own : GoodIn wsX12_nameFall (wsV RX12 72 RX12 yX12_own wsX12_own) := goodIn_app (goodIn_of _ (by decide +kernel)) ggX12_nameFall_X12_own
set_option maxRecDepth 20000 in
theorem ggX12_nameFall_X12_nameHouse : GoodIn wsX12_nameFall wsX12_nameHouse := goodIn_r _ [11, 1, 7, 12, 13, 14, 5, 15, 16, 17, 18, 19, 20, 21, 22, 23, 24, 25, 26, 27, 28, 29, 30, 31, 32, 33, 34, 35, 36, 37, 38, 39, 40, 41, 42, 43, 44, 45, 46] rfl (by decide +kernel)
set_option maxRecDepth 20000 in
theorem gX12_nameFall_X12_nameHouse : GoodIn wsX12_nameFall (wsV RX12 308 RX12 yX12_nameHouse wsX12_nameHouse) := goodIn_app (goodIn_of _ (by decide +kernel)) ggX12_nameFall_X12_nameHouse
theorem dX12_nameFall_0 : decode cX12_nameFall 0 = .ok (.aload_n 0, 1) := by decide +kernel
theorem dX12_nameFall_1 : decode cX12_nameFall 1 = .ok (.aload_n 0, 1) := by decide +kernel
theorem dX12_nameFall_2 : decode cX12_nameFall 2 = .ok (.iload_n 1, 1) := by decide +kernel
theorem dX12_nameFall_3 : decode cX12_nameFall 3 = .ok (.iconst 1, 1) := by decide +kernel
theorem dX12_nameFall_4 : decode cX12_nameFall 4 = .ok (.invokevirtual 72, 3) := by decide +kernel
theorem dX12_nameFall_7 : decode cX12_nameFall 7 = .ok (.invokevirtual 308, 3) := by decide +kernel
theorem dX12_nameFall_10 : decode cX12_nameFall 10 = .ok (.aload_n 0, 1) := by decide +kernel
theorem dX12_nameFall_11 : decode cX12_nameFall 11 = .ok (.getfield 32, 3) := by decide +kernel
theorem dX12_nameFall_14 : decode cX12_nameFall 14 = .ok (.bipush 6, 2) := by decide +kernel
theorem dX12_nameFall_16 : decode cX12_nameFall 16 = .ok (.aload_n 0, 1) := by decide +kernel
theorem dX12_nameFall_17 : decode cX12_nameFall 17 = .ok (.iload_n 1, 1) := by decide +kernel
theorem dX12_nameFall_18 : decode cX12_nameFall 18 = .ok (.iconst 3, 1) := by decide +kernel
theorem dX12_nameFall_19 : decode cX12_nameFall 19 = .ok (.invokevirtual 72, 3) := by decide +kernel
theorem dX12_nameFall_22 : decode cX12_nameFall 22 = .ok (.iastore, 1) := by decide +kernel
theorem dX12_nameFall_23 : decode cX12_nameFall 23 = .ok (.aload_n 0, 1) := by decide +kernel
theorem dX12_nameFall_24 : decode cX12_nameFall 24 = .ok (.getfield 32, 3) := by decide +kernel
theorem dX12_nameFall_27 : decode cX12_nameFall 27 = .ok (.bipush 7, 2) := by decide +kernel
theorem dX12_nameFall_29 : decode cX12_nameFall 29 = .ok (.aload_n 0, 1) := by decide +kernel
theorem dX12_nameFall_30 : decode cX12_nameFall 30 = .ok (.iload_n 1, 1) := by decide +kernel
theorem dX12_nameFall_31 : decode cX12_nameFall 31 = .ok (.iconst 4, 1) := by decide +kernel
theorem dX12_nameFall_32 : decode cX12_nameFall 32 = .ok (.invokevirtual 72, 3) := by decide +kernel
theorem dX12_nameFall_35 : decode cX12_nameFall 35 = .ok (.iastore, 1) := by decide +kernel
theorem dX12_nameFall_36 : decode cX12_nameFall 36 = .ok (.aload_n 0, 1) := by decide +kernel
theorem dX12_nameFall_37 : decode cX12_nameFall 37 = .ok (.getfield 32, 3) := by decide +kernel
theorem dX12_nameFall_40 : decode cX12_nameFall 40 = .ok (.bipush 8, 2) := by decide +kernel
theorem dX12_nameFall_42 : decode cX12_nameFall 42 = .ok (.aload_n 0, 1) := by decide +kernel
theorem dX12_nameFall_43 : decode cX12_nameFall 43 = .ok (.iload_n 1, 1) := by decide +kernel
theorem dX12_nameFall_44 : decode cX12_nameFall 44 = .ok (.iconst 0, 1) := by decide +kernel
theorem dX12_nameFall_45 : decode cX12_nameFall 45 = .ok (.invokevirtual 72, 3) := by decide +kernel
theorem dX12_nameFall_48 : decode cX12_nameFall 48 = .ok (.iastore, 1) := by decide +kernel
theorem dX12_nameFall_49 : decode cX12_nameFall 49 = .ok (.aload_n 0, 1) := by decide +kernel
theorem dX12_nameFall_50 : decode cX12_nameFall 50 = .ok (.getfield 32, 3) := by decide +kernel
theorem dX12_nameFall_53 : decode cX12_nameFall 53 = .ok (.bipush 9, 2) := by decide +kernel
theorem dX12_nameFall_55 : decode cX12_nameFall 55 = .ok (.iload_n 2, 1) := by decide +kernel
theorem dX12_nameFall_56 : decode cX12_nameFall 56 = .ok (.iastore, 1) := by decide +kernel
theorem dX12_nameFall_57 : decode cX12_nameFall 57 = .ok (.aload_n 0, 1) := by decide +kernel
theorem dX12_nameFall_58 : decode cX12_nameFall 58 = .ok (.getfield 32, 3) := by decide +kernel
theorem dX12_nameFall_61 : decode cX12_nameFall 61 = .ok (.bipush 10, 2) := by decide +kernel
theorem dX12_nameFall_63 : decode cX12_nameFall 63 = .ok (.iload_n 1, 1) := by decide +kernel
theorem dX12_nameFall_64 : decode cX12_nameFall 64 = .ok (.iastore, 1) := by decide +kernel
theorem dX12_nameFall_65 : decode cX12_nameFall 65 = .ok (.return_, 1) := by decide +kernel
set_option maxRecDepth 20000 in
theorem ggX12_easesOf_X12_nameFall : GoodIn wsX12_easesOf wsX12_nameFall := goodIn_r _ [7, 2, 8, 9, 10, 6, 11, 1, 12, 13, 14, 15, 16, 17, 18, 19, 55, 56, 57, 58, 59, 60, 61, 62, 63, 64, 65, 66, 67, 68, 69, 70, 71, 72, 73, 74, 75, 76, 77, 78, 79, 80, 81, 82, 83, 84, 85] rfl (by decide +kernel)
set_option maxRecDepth 20000 in
theorem gX12_easesOf_X12_nameFall : GoodIn wsX12_easesOf (wsV RX12 311 RX12 yX12_nameFall wsX12_nameFall) := goodIn_app (goodIn_of _ (by decide +kernel)) ggX12_easesOf_X12_nameFall
set_option maxRecDepth 20000 in
theorem ggX12_easesOf_X12_says : GoodIn wsX12_easesOf wsX12_says := goodIn_r _ [23, 24, 25, 26, 27, 6, 28, 29, 2, 30, 31, 32, 33, 34, 35, 36, 37, 1, 16, 17, 18, 19, 38, 39, 40, 41, 42, 43, 44, 45, 46, 47, 48, 49, 50, 51, 52, 53, 54, 55, 56, 57, 58, 59, 60, 61, 62, 63, 64, 65, 66, 67, 68, 69, 70, 71, 72, 73, 74, 75, 76, 77, 78, 79, 80, 81, 82, 83, 84, 85] rfl (by decide +kernel)
set_option maxRecDepth 20000 in
theorem gX12_easesOf_X12_says : GoodIn wsX12_easesOf (wsV RX12 314 RX12 yX12_says wsX12_says) := goodIn_app (goodIn_of _ (by decide +kernel)) ggX12_easesOf_X12_says
theorem dX12_easesOf_0 : decode cX12_easesOf 0 = .ok (.aload_n 0, 1) := by decide +kernel
theorem dX12_easesOf_1 : decode cX12_easesOf 1 = .ok (.iload_n 1, 1) := by decide +kernel
theorem dX12_easesOf_2 : decode cX12_easesOf 2 = .ok (.iload_n 2, 1) := by decide +kernel
theorem dX12_easesOf_3 : decode cX12_easesOf 3 = .ok (.invokevirtual 311, 3) := by decide +kernel
theorem dX12_easesOf_6 : decode cX12_easesOf 6 = .ok (.aload_n 0, 1) := by decide +kernel
theorem dX12_easesOf_7 : decode cX12_easesOf 7 = .ok (.aload_n 0, 1) := by decide +kernel
theorem dX12_easesOf_8 : decode cX12_easesOf 8 = .ok (.getfield 7, 3) := by decide +kernel
theorem dX12_easesOf_11 : decode cX12_easesOf 11 = .ok (.iconst 3, 1) := by decide +kernel
theorem dX12_easesOf_12 : decode cX12_easesOf 12 = .ok (.iaload, 1) := by decide +kernel
theorem dX12_easesOf_13 : decode cX12_easesOf 13 = .ok (.iconst 0, 1) := by decide +kernel
theorem dX12_easesOf_14 : decode cX12_easesOf 14 = .ok (.aload_n 0, 1) := by decide +kernel
theorem dX12_easesOf_15 : decode cX12_easesOf 15 = .ok (.getfield 32, 3) := by decide +kernel
theorem dX12_easesOf_18 : decode cX12_easesOf 18 = .ok (.bipush 6, 2) := by decide +kernel
theorem dX12_easesOf_20 : decode cX12_easesOf 20 = .ok (.iaload, 1) := by decide +kernel
theorem dX12_easesOf_21 : decode cX12_easesOf 21 = .ok (.iload_n 2, 1) := by decide +kernel
theorem dX12_easesOf_22 : decode cX12_easesOf 22 = .ok (.iadd, 1) := by decide +kernel
theorem dX12_easesOf_23 : decode cX12_easesOf 23 = .ok (.bipush 99, 2) := by decide +kernel
theorem dX12_easesOf_25 : decode cX12_easesOf 25 = .ok (.invokevirtual 314, 3) := by decide +kernel
theorem dX12_easesOf_28 : decode cX12_easesOf 28 = .ok (.ireturn, 1) := by decide +kernel
set_option maxRecDepth 20000 in
theorem ggX12_laughsOf_X12_nameFall : GoodIn wsX12_laughsOf wsX12_nameFall := goodIn_r _ [7, 2, 8, 9, 10, 6, 11, 1, 12, 13, 14, 15, 16, 17, 18, 19, 55, 56, 57, 58, 59, 60, 61, 62, 63, 64, 65, 66, 67, 68, 69, 70, 71, 72, 73, 74, 75, 76, 77, 78, 79, 80, 81, 82, 83, 84, 85] rfl (by decide +kernel)
set_option maxRecDepth 20000 in
theorem gX12_laughsOf_X12_nameFall : GoodIn wsX12_laughsOf (wsV RX12 311 RX12 yX12_nameFall wsX12_nameFall) := goodIn_app (goodIn_of _ (by decide +kernel)) ggX12_laughsOf_X12_nameFall
set_option maxRecDepth 20000 in
theorem ggX12_laughsOf_X12_says : GoodIn wsX12_laughsOf wsX12_says := goodIn_r _ [23, 24, 25, 26, 27, 6, 28, 29, 2, 30, 31, 32, 33, 34, 35, 36, 37, 1, 16, 17, 18, 19, 38, 39, 40, 41, 42, 43, 44, 45, 46, 47, 48, 49, 50, 51, 52, 53, 54, 55, 56, 57, 58, 59, 60, 61, 62, 63, 64, 65, 66, 67, 68, 69, 70, 71, 72, 73, 74, 75, 76, 77, 78, 79, 80, 81, 82, 83, 84, 85] rfl (by decide +kernel)
set_option maxRecDepth 20000 in
theorem gX12_laughsOf_X12_says : GoodIn wsX12_laughsOf (wsV RX12 314 RX12 yX12_says wsX12_says) := goodIn_app (goodIn_of _ (by decide +kernel)) ggX12_laughsOf_X12_says
theorem dX12_laughsOf_0 : decode cX12_laughsOf 0 = .ok (.aload_n 0, 1) := by decide +kernel
theorem dX12_laughsOf_1 : decode cX12_laughsOf 1 = .ok (.iload_n 1, 1) := by decide +kernel
theorem dX12_laughsOf_2 : decode cX12_laughsOf 2 = .ok (.iload_n 2, 1) := by decide +kernel
theorem dX12_laughsOf_3 : decode cX12_laughsOf 3 = .ok (.invokevirtual 311, 3) := by decide +kernel
theorem dX12_laughsOf_6 : decode cX12_laughsOf 6 = .ok (.aload_n 0, 1) := by decide +kernel
theorem dX12_laughsOf_7 : decode cX12_laughsOf 7 = .ok (.aload_n 0, 1) := by decide +kernel
theorem dX12_laughsOf_8 : decode cX12_laughsOf 8 = .ok (.getfield 7, 3) := by decide +kernel
theorem dX12_laughsOf_11 : decode cX12_laughsOf 11 = .ok (.iconst 3, 1) := by decide +kernel
theorem dX12_laughsOf_12 : decode cX12_laughsOf 12 = .ok (.iaload, 1) := by decide +kernel
theorem dX12_laughsOf_13 : decode cX12_laughsOf 13 = .ok (.iconst 1, 1) := by decide +kernel
theorem dX12_laughsOf_14 : decode cX12_laughsOf 14 = .ok (.aload_n 0, 1) := by decide +kernel
theorem dX12_laughsOf_15 : decode cX12_laughsOf 15 = .ok (.getfield 32, 3) := by decide +kernel
theorem dX12_laughsOf_18 : decode cX12_laughsOf 18 = .ok (.iconst 3, 1) := by decide +kernel
theorem dX12_laughsOf_19 : decode cX12_laughsOf 19 = .ok (.iaload, 1) := by decide +kernel
theorem dX12_laughsOf_20 : decode cX12_laughsOf 20 = .ok (.bipush 10, 2) := by decide +kernel
theorem dX12_laughsOf_22 : decode cX12_laughsOf 22 = .ok (.invokevirtual 314, 3) := by decide +kernel
theorem dX12_laughsOf_25 : decode cX12_laughsOf 25 = .ok (.ireturn, 1) := by decide +kernel
set_option maxRecDepth 20000 in
theorem ggX12_growsOf_X12_nameHouse : GoodIn wsX12_growsOf wsX12_nameHouse := goodIn_r _ [6, 1, 7, 8, 9, 10, 5, 11, 58, 59, 60, 61, 62, 63, 64, 65, 66, 67, 68, 69, 70, 71, 72, 73, 74, 75, 76, 77, 78, 79, 80, 81, 82, 83, 84, 85, 86, 87, 88] rfl (by decide +kernel)
set_option maxRecDepth 20000 in
theorem gX12_growsOf_X12_nameHouse : GoodIn wsX12_growsOf (wsV RX12 308 RX12 yX12_nameHouse wsX12_nameHouse) := goodIn_app (goodIn_of _ (by decide +kernel)) ggX12_growsOf_X12_nameHouse
set_option maxRecDepth 20000 in
theorem ggX12_growsOf_X12_thereAt : GoodIn wsX12_growsOf wsX12_thereAt := goodIn_r _ [15, 7, 16, 17, 18, 5, 19, 58, 59, 60, 61, 62, 63, 64, 65, 66, 67, 68, 69, 70, 71, 72, 73, 74, 75, 76, 77, 78, 79, 80, 81, 82, 83, 84, 85, 86, 87, 88] rfl (by decide +kernel)
set_option maxRecDepth 20000 in
theorem gX12_growsOf_X12_thereAt : GoodIn wsX12_growsOf (wsV RX12 318 RX12 yX12_thereAt wsX12_thereAt) := goodIn_app (goodIn_of _ (by decide +kernel)) ggX12_growsOf_X12_thereAt
set_option maxRecDepth 20000 in
theorem ggX12_growsOf_X12_bits : GoodIn wsX12_growsOf wsX12_bits := goodIn_r _ [22] rfl (by decide +kernel)
set_option maxRecDepth 20000 in
theorem gX12_growsOf_X12_bits : GoodIn wsX12_growsOf (va_wsS RX12 321 yX12_bits wsX12_bits) := goodIn_app (goodIn_of _ (by decide +kernel)) ggX12_growsOf_X12_bits
set_option maxRecDepth 20000 in
theorem ggX12_growsOf_X12_says : GoodIn wsX12_growsOf wsX12_says := goodIn_r _ [26, 27, 28, 29, 30, 5, 31, 32, 1, 33, 34, 35, 36, 37, 38, 39, 40, 7, 8, 9, 10, 11, 41, 42, 43, 44, 45, 46, 47, 48, 49, 50, 51, 52, 53, 54, 55, 56, 57, 58, 59, 60, 61, 62, 63, 64, 65, 66, 67, 68, 69, 70, 71, 72, 73, 74, 75, 76, 77, 78, 79, 80, 81, 82, 83, 84, 85, 86, 87, 88] rfl (by decide +kernel)
set_option maxRecDepth 20000 in
theorem gX12_growsOf_X12_says : GoodIn wsX12_growsOf (wsV RX12 314 RX12 yX12_says wsX12_says) := goodIn_app (goodIn_of _ (by decide +kernel)) ggX12_growsOf_X12_says
theorem dX12_growsOf_0 : decode cX12_growsOf 0 = .ok (.aload_n 0, 1) := by decide +kernel
theorem dX12_growsOf_1 : decode cX12_growsOf 1 = .ok (.iload_n 2, 1) := by decide +kernel
theorem dX12_growsOf_2 : decode cX12_growsOf 2 = .ok (.invokevirtual 308, 3) := by decide +kernel
theorem dX12_growsOf_5 : decode cX12_growsOf 5 = .ok (.aload_n 0, 1) := by decide +kernel
theorem dX12_growsOf_6 : decode cX12_growsOf 6 = .ok (.getfield 32, 3) := by decide +kernel
theorem dX12_growsOf_9 : decode cX12_growsOf 9 = .ok (.bipush 11, 2) := by decide +kernel
theorem dX12_growsOf_11 : decode cX12_growsOf 11 = .ok (.aload_n 0, 1) := by decide +kernel
theorem dX12_growsOf_12 : decode cX12_growsOf 12 = .ok (.iload_n 2, 1) := by decide +kernel
theorem dX12_growsOf_13 : decode cX12_growsOf 13 = .ok (.invokevirtual 318, 3) := by decide +kernel
theorem dX12_growsOf_16 : decode cX12_growsOf 16 = .ok (.invokestatic 321, 3) := by decide +kernel
theorem dX12_growsOf_19 : decode cX12_growsOf 19 = .ok (.iastore, 1) := by decide +kernel
theorem dX12_growsOf_20 : decode cX12_growsOf 20 = .ok (.aload_n 0, 1) := by decide +kernel
theorem dX12_growsOf_21 : decode cX12_growsOf 21 = .ok (.iload_n 1, 1) := by decide +kernel
theorem dX12_growsOf_22 : decode cX12_growsOf 22 = .ok (.iconst 2, 1) := by decide +kernel
theorem dX12_growsOf_23 : decode cX12_growsOf 23 = .ok (.aload_n 0, 1) := by decide +kernel
theorem dX12_growsOf_24 : decode cX12_growsOf 24 = .ok (.getfield 32, 3) := by decide +kernel
theorem dX12_growsOf_27 : decode cX12_growsOf 27 = .ok (.bipush 11, 2) := by decide +kernel
theorem dX12_growsOf_29 : decode cX12_growsOf 29 = .ok (.iaload, 1) := by decide +kernel
theorem dX12_growsOf_30 : decode cX12_growsOf 30 = .ok (.ifCond .ne 7, 3) := by decide +kernel
theorem dX12_growsOf_33 : decode cX12_growsOf 33 = .ok (.iconst 1, 1) := by decide +kernel
theorem dX12_growsOf_34 : decode cX12_growsOf 34 = .ok (.goto 4, 3) := by decide +kernel
theorem dX12_growsOf_37 : decode cX12_growsOf 37 = .ok (.iconst 0, 1) := by decide +kernel
theorem dX12_growsOf_38 : decode cX12_growsOf 38 = .ok (.bipush 9, 2) := by decide +kernel
theorem dX12_growsOf_40 : decode cX12_growsOf 40 = .ok (.invokevirtual 314, 3) := by decide +kernel
theorem dX12_growsOf_43 : decode cX12_growsOf 43 = .ok (.ireturn, 1) := by decide +kernel
theorem dX12_write_0 : decode cX12_write 0 = .ok (.aload_n 0, 1) := by decide +kernel
theorem dX12_write_1 : decode cX12_write 1 = .ok (.getfield 7, 3) := by decide +kernel
theorem dX12_write_4 : decode cX12_write 4 = .ok (.bipush 9, 2) := by decide +kernel
theorem dX12_write_6 : decode cX12_write 6 = .ok (.iaload, 1) := by decide +kernel
theorem dX12_write_7 : decode cX12_write 7 = .ok (.bipush 30, 2) := by decide +kernel
theorem dX12_write_9 : decode cX12_write 9 = .ok (.if_icmp .ne 50, 3) := by decide +kernel
theorem dX12_write_12 : decode cX12_write 12 = .ok (.iconst 1, 1) := by decide +kernel
theorem dX12_write_13 : decode cX12_write 13 = .ok (.istore_n 3, 1) := by decide +kernel
theorem dX12_write_14 : decode cX12_write 14 = .ok (.iload_n 3, 1) := by decide +kernel
theorem dX12_write_15 : decode cX12_write 15 = .ok (.bipush 30, 2) := by decide +kernel
theorem dX12_write_17 : decode cX12_write 17 = .ok (.if_icmp .ge 31, 3) := by decide +kernel
theorem dX12_write_20 : decode cX12_write 20 = .ok (.aload_n 0, 1) := by decide +kernel
theorem dX12_write_21 : decode cX12_write 21 = .ok (.getfield 7, 3) := by decide +kernel
theorem dX12_write_24 : decode cX12_write 24 = .ok (.sipush 2424, 3) := by decide +kernel
theorem dX12_write_27 : decode cX12_write 27 = .ok (.iload_n 3, 1) := by decide +kernel
theorem dX12_write_28 : decode cX12_write 28 = .ok (.iadd, 1) := by decide +kernel
theorem dX12_write_29 : decode cX12_write 29 = .ok (.iconst 1, 1) := by decide +kernel
theorem dX12_write_30 : decode cX12_write 30 = .ok (.isub, 1) := by decide +kernel
theorem dX12_write_31 : decode cX12_write 31 = .ok (.aload_n 0, 1) := by decide +kernel
theorem dX12_write_32 : decode cX12_write 32 = .ok (.getfield 7, 3) := by decide +kernel
theorem dX12_write_35 : decode cX12_write 35 = .ok (.sipush 2424, 3) := by decide +kernel
theorem dX12_write_38 : decode cX12_write 38 = .ok (.iload_n 3, 1) := by decide +kernel
theorem dX12_write_39 : decode cX12_write 39 = .ok (.iadd, 1) := by decide +kernel
theorem dX12_write_40 : decode cX12_write 40 = .ok (.iaload, 1) := by decide +kernel
theorem dX12_write_41 : decode cX12_write 41 = .ok (.iastore, 1) := by decide +kernel
theorem dX12_write_42 : decode cX12_write 42 = .ok (.iinc 3 1, 3) := by decide +kernel
theorem dX12_write_45 : decode cX12_write 45 = .ok (.goto (-31), 3) := by decide +kernel
theorem dX12_write_48 : decode cX12_write 48 = .ok (.aload_n 0, 1) := by decide +kernel
theorem dX12_write_49 : decode cX12_write 49 = .ok (.getfield 7, 3) := by decide +kernel
theorem dX12_write_52 : decode cX12_write 52 = .ok (.bipush 9, 2) := by decide +kernel
theorem dX12_write_54 : decode cX12_write 54 = .ok (.dup2, 1) := by decide +kernel
theorem dX12_write_55 : decode cX12_write 55 = .ok (.iaload, 1) := by decide +kernel
theorem dX12_write_56 : decode cX12_write 56 = .ok (.iconst 1, 1) := by decide +kernel
theorem dX12_write_57 : decode cX12_write 57 = .ok (.isub, 1) := by decide +kernel
theorem dX12_write_58 : decode cX12_write 58 = .ok (.iastore, 1) := by decide +kernel
theorem dX12_write_59 : decode cX12_write 59 = .ok (.aload_n 0, 1) := by decide +kernel
theorem dX12_write_60 : decode cX12_write 60 = .ok (.getfield 7, 3) := by decide +kernel
theorem dX12_write_63 : decode cX12_write 63 = .ok (.sipush 2424, 3) := by decide +kernel
theorem dX12_write_66 : decode cX12_write 66 = .ok (.aload_n 0, 1) := by decide +kernel
theorem dX12_write_67 : decode cX12_write 67 = .ok (.getfield 7, 3) := by decide +kernel
theorem dX12_write_70 : decode cX12_write 70 = .ok (.bipush 9, 2) := by decide +kernel
theorem dX12_write_72 : decode cX12_write 72 = .ok (.iaload, 1) := by decide +kernel
theorem dX12_write_73 : decode cX12_write 73 = .ok (.iadd, 1) := by decide +kernel
theorem dX12_write_74 : decode cX12_write 74 = .ok (.aload_n 0, 1) := by decide +kernel
theorem dX12_write_75 : decode cX12_write 75 = .ok (.getfield 7, 3) := by decide +kernel
theorem dX12_write_78 : decode cX12_write 78 = .ok (.bipush 7, 2) := by decide +kernel
theorem dX12_write_80 : decode cX12_write 80 = .ok (.iaload, 1) := by decide +kernel
theorem dX12_write_81 : decode cX12_write 81 = .ok (.bipush 8, 2) := by decide +kernel
theorem dX12_write_83 : decode cX12_write 83 = .ok (.imul, 1) := by decide +kernel
theorem dX12_write_84 : decode cX12_write 84 = .ok (.iload_n 1, 1) := by decide +kernel
theorem dX12_write_85 : decode cX12_write 85 = .ok (.iadd, 1) := by decide +kernel
theorem dX12_write_86 : decode cX12_write 86 = .ok (.bipush 8, 2) := by decide +kernel
theorem dX12_write_88 : decode cX12_write 88 = .ok (.imul, 1) := by decide +kernel
theorem dX12_write_89 : decode cX12_write 89 = .ok (.iload_n 2, 1) := by decide +kernel
theorem dX12_write_90 : decode cX12_write 90 = .ok (.iadd, 1) := by decide +kernel
theorem dX12_write_91 : decode cX12_write 91 = .ok (.iastore, 1) := by decide +kernel
theorem dX12_write_92 : decode cX12_write 92 = .ok (.aload_n 0, 1) := by decide +kernel
theorem dX12_write_93 : decode cX12_write 93 = .ok (.getfield 7, 3) := by decide +kernel
theorem dX12_write_96 : decode cX12_write 96 = .ok (.bipush 9, 2) := by decide +kernel
theorem dX12_write_98 : decode cX12_write 98 = .ok (.dup2, 1) := by decide +kernel
theorem dX12_write_99 : decode cX12_write 99 = .ok (.iaload, 1) := by decide +kernel
theorem dX12_write_100 : decode cX12_write 100 = .ok (.iconst 1, 1) := by decide +kernel
theorem dX12_write_101 : decode cX12_write 101 = .ok (.iadd, 1) := by decide +kernel
theorem dX12_write_102 : decode cX12_write 102 = .ok (.iastore, 1) := by decide +kernel
theorem dX12_write_103 : decode cX12_write 103 = .ok (.return_, 1) := by decide +kernel
theorem dX12_anew_0 : decode cX12_anew 0 = .ok (.aload_n 0, 1) := by decide +kernel
theorem dX12_anew_1 : decode cX12_anew 1 = .ok (.getfield 7, 3) := by decide +kernel
theorem dX12_anew_4 : decode cX12_anew 4 = .ok (.bipush 8, 2) := by decide +kernel
theorem dX12_anew_6 : decode cX12_anew 6 = .ok (.aload_n 0, 1) := by decide +kernel
theorem dX12_anew_7 : decode cX12_anew 7 = .ok (.getfield 7, 3) := by decide +kernel
theorem dX12_anew_10 : decode cX12_anew 10 = .ok (.bipush 8, 2) := by decide +kernel
theorem dX12_anew_12 : decode cX12_anew 12 = .ok (.iaload, 1) := by decide +kernel
theorem dX12_anew_13 : decode cX12_anew 13 = .ok (.i2l, 1) := by decide +kernel
theorem dX12_anew_14 : decode cX12_anew 14 = .ok (.ldc2_w 324, 3) := by decide +kernel
theorem dX12_anew_17 : decode cX12_anew 17 = .ok (.lmul, 1) := by decide +kernel
theorem dX12_anew_18 : decode cX12_anew 18 = .ok (.ldc2_w 326, 3) := by decide +kernel
theorem dX12_anew_21 : decode cX12_anew 21 = .ok (.ladd, 1) := by decide +kernel
theorem dX12_anew_22 : decode cX12_anew 22 = .ok (.ldc2_w 328, 3) := by decide +kernel
theorem dX12_anew_25 : decode cX12_anew 25 = .ok (.lrem, 1) := by decide +kernel
theorem dX12_anew_26 : decode cX12_anew 26 = .ok (.l2i, 1) := by decide +kernel
theorem dX12_anew_27 : decode cX12_anew 27 = .ok (.iastore, 1) := by decide +kernel
theorem dX12_anew_28 : decode cX12_anew 28 = .ok (.return_, 1) := by decide +kernel
set_option maxRecDepth 20000 in
theorem ggX12_comfortNow_X12_own : GoodIn wsX12_comfortNow wsX12_own := goodIn_r _ [5, 6, 67, 68, 69, 70, 71, 72, 73, 74, 75, 76, 77, 78, 79, 80, 81, 82, 83, 84, 85, 86, 87, 88, 89, 90, 91, 92, 93, 94, 95, 96, 97] rfl (by decide +kernel)
set_option maxRecDepth 20000 in
theorem gX12_comfortNow_X12_own : GoodIn wsX12_comfortNow (wsV RX12 72 RX12 yX12_own wsX12_own) := goodIn_app (goodIn_of _ (by decide +kernel)) ggX12_comfortNow_X12_own
set_option maxRecDepth 20000 in
theorem ggX12_comfortNow_X12_get : GoodIn wsX12_comfortNow wsX12_get := goodIn_r _ [10, 6, 67, 68, 69, 70, 71, 72, 73, 74, 75, 76, 77, 78, 79, 80, 81, 82, 83, 84, 85, 86, 87, 88, 89, 90, 91, 92, 93, 94, 95, 96, 97] rfl (by decide +kernel)
set_option maxRecDepth 20000 in
theorem gX12_comfortNow_X12_get : GoodIn wsX12_comfortNow (wsV RX12 84 RX12 yX12_get wsX12_get) := goodIn_app (goodIn_of _ (by decide +kernel)) ggX12_comfortNow_X12_get
set_option maxRecDepth 20000 in
theorem ggX12_comfortNow_X12_easesOf : GoodIn wsX12_comfortNow wsX12_easesOf := goodIn_r _ [14, 6, 15, 16, 17, 18, 4, 19, 1, 2, 3, 5, 20, 21, 22, 23, 7, 8, 9, 10, 24, 25, 26, 27, 28, 29, 30, 31, 32, 33, 34, 35, 36, 37, 38, 39, 40, 41, 42, 43, 44, 45, 46, 47, 48, 49, 50, 51, 52, 53, 54, 55, 56, 57, 58, 67, 68, 69, 70, 71, 72, 73, 74, 75, 76, 77, 78, 79, 80, 81, 82, 83, 84, 85, 86, 87, 88, 89, 90, 91, 92, 93, 94, 95, 96, 97] rfl (by decide +kernel)
set_option maxRecDepth 20000 in
theorem gX12_comfortNow_X12_easesOf : GoodIn wsX12_comfortNow (wsV RX12 330 RX12 yX12_easesOf wsX12_easesOf) := goodIn_app (goodIn_of _ (by decide +kernel)) ggX12_comfortNow_X12_easesOf
set_option maxRecDepth 20000 in
theorem ggX12_comfortNow_X12_cut : GoodIn wsX12_comfortNow wsX12_cut := goodIn_r _ [58] rfl (by decide +kernel)
set_option maxRecDepth 20000 in
theorem gX12_comfortNow_X12_cut : GoodIn wsX12_comfortNow (va_wsS RX12 305 yX12_cut wsX12_cut) := goodIn_app (goodIn_of _ (by decide +kernel)) ggX12_comfortNow_X12_cut
set_option maxRecDepth 20000 in
theorem ggX12_comfortNow_X12_put : GoodIn wsX12_comfortNow wsX12_put := goodIn_r _ [62, 6, 67, 68, 69, 70, 71, 72, 73, 74, 75, 76, 77, 78, 79, 80, 81, 82, 83, 84, 85, 86, 87, 88, 89, 90, 91, 92, 93, 94, 95, 96, 97] rfl (by decide +kernel)
set_option maxRecDepth 20000 in
theorem gX12_comfortNow_X12_put : GoodIn wsX12_comfortNow (wsV RX12 76 RX12 yX12_put wsX12_put) := goodIn_app (goodIn_of _ (by decide +kernel)) ggX12_comfortNow_X12_put
set_option maxRecDepth 20000 in
theorem ggX12_comfortNow_X12_moodBy : GoodIn wsX12_comfortNow wsX12_moodBy := goodIn_r _ [66, 6, 67, 68, 69, 70, 71, 72, 73, 74, 75, 76, 77, 78, 79, 80, 81, 82, 83, 84, 85, 86, 87, 88, 89, 90, 91, 92, 93, 94, 95, 96, 97] rfl (by decide +kernel)
set_option maxRecDepth 20000 in
theorem gX12_comfortNow_X12_moodBy : GoodIn wsX12_comfortNow (wsV RX12 333 RX12 yX12_moodBy wsX12_moodBy) := goodIn_app (goodIn_of _ (by decide +kernel)) ggX12_comfortNow_X12_moodBy
theorem dX12_comfortNow_0 : decode cX12_comfortNow 0 = .ok (.aload_n 0, 1) := by decide +kernel
theorem dX12_comfortNow_1 : decode cX12_comfortNow 1 = .ok (.iload_n 1, 1) := by decide +kernel
theorem dX12_comfortNow_2 : decode cX12_comfortNow 2 = .ok (.iconst 1, 1) := by decide +kernel
theorem dX12_comfortNow_3 : decode cX12_comfortNow 3 = .ok (.invokevirtual 72, 3) := by decide +kernel
theorem dX12_comfortNow_6 : decode cX12_comfortNow 6 = .ok (.istore_n 3, 1) := by decide +kernel
theorem dX12_comfortNow_7 : decode cX12_comfortNow 7 = .ok (.aload_n 0, 1) := by decide +kernel
theorem dX12_comfortNow_8 : decode cX12_comfortNow 8 = .ok (.iload_n 3, 1) := by decide +kernel
theorem dX12_comfortNow_9 : decode cX12_comfortNow 9 = .ok (.iconst 0, 1) := by decide +kernel
theorem dX12_comfortNow_10 : decode cX12_comfortNow 10 = .ok (.aload_n 0, 1) := by decide +kernel
theorem dX12_comfortNow_11 : decode cX12_comfortNow 11 = .ok (.iload_n 3, 1) := by decide +kernel
theorem dX12_comfortNow_12 : decode cX12_comfortNow 12 = .ok (.iconst 0, 1) := by decide +kernel
theorem dX12_comfortNow_13 : decode cX12_comfortNow 13 = .ok (.invokevirtual 84, 3) := by decide +kernel
theorem dX12_comfortNow_16 : decode cX12_comfortNow 16 = .ok (.aload_n 0, 1) := by decide +kernel
theorem dX12_comfortNow_17 : decode cX12_comfortNow 17 = .ok (.iload_n 1, 1) := by decide +kernel
theorem dX12_comfortNow_18 : decode cX12_comfortNow 18 = .ok (.iload_n 2, 1) := by decide +kernel
theorem dX12_comfortNow_19 : decode cX12_comfortNow 19 = .ok (.invokevirtual 330, 3) := by decide +kernel
theorem dX12_comfortNow_22 : decode cX12_comfortNow 22 = .ok (.isub, 1) := by decide +kernel
theorem dX12_comfortNow_23 : decode cX12_comfortNow 23 = .ok (.i2l, 1) := by decide +kernel
theorem dX12_comfortNow_24 : decode cX12_comfortNow 24 = .ok (.iconst 0, 1) := by decide +kernel
theorem dX12_comfortNow_25 : decode cX12_comfortNow 25 = .ok (.bipush 99, 2) := by decide +kernel
theorem dX12_comfortNow_27 : decode cX12_comfortNow 27 = .ok (.invokestatic 305, 3) := by decide +kernel
theorem dX12_comfortNow_30 : decode cX12_comfortNow 30 = .ok (.invokevirtual 76, 3) := by decide +kernel
theorem dX12_comfortNow_33 : decode cX12_comfortNow 33 = .ok (.aload_n 0, 1) := by decide +kernel
theorem dX12_comfortNow_34 : decode cX12_comfortNow 34 = .ok (.iload_n 3, 1) := by decide +kernel
theorem dX12_comfortNow_35 : decode cX12_comfortNow 35 = .ok (.iconst 1, 1) := by decide +kernel
theorem dX12_comfortNow_36 : decode cX12_comfortNow 36 = .ok (.aload_n 0, 1) := by decide +kernel
theorem dX12_comfortNow_37 : decode cX12_comfortNow 37 = .ok (.iload_n 2, 1) := by decide +kernel
theorem dX12_comfortNow_38 : decode cX12_comfortNow 38 = .ok (.aload_n 0, 1) := by decide +kernel
theorem dX12_comfortNow_39 : decode cX12_comfortNow 39 = .ok (.iload_n 3, 1) := by decide +kernel
theorem dX12_comfortNow_40 : decode cX12_comfortNow 40 = .ok (.iconst 1, 1) := by decide +kernel
theorem dX12_comfortNow_41 : decode cX12_comfortNow 41 = .ok (.invokevirtual 84, 3) := by decide +kernel
theorem dX12_comfortNow_44 : decode cX12_comfortNow 44 = .ok (.invokevirtual 333, 3) := by decide +kernel
theorem dX12_comfortNow_47 : decode cX12_comfortNow 47 = .ok (.invokevirtual 76, 3) := by decide +kernel
theorem dX12_comfortNow_50 : decode cX12_comfortNow 50 = .ok (.return_, 1) := by decide +kernel
set_option maxRecDepth 20000 in
theorem ggX12_laugh_X12_get : GoodIn wsX12_laugh wsX12_get := goodIn_r _ [5, 6, 18, 19, 20, 21, 22, 23, 24, 25, 26, 27, 28, 29, 30, 31, 32, 33, 34, 35, 36, 37, 38, 39, 40, 41, 42, 43, 44, 45, 46, 47, 48] rfl (by decide +kernel)
set_option maxRecDepth 20000 in
theorem gX12_laugh_X12_get : GoodIn wsX12_laugh (wsV RX12 84 RX12 yX12_get wsX12_get) := goodIn_app (goodIn_of _ (by decide +kernel)) ggX12_laugh_X12_get
set_option maxRecDepth 20000 in
theorem ggX12_laugh_X12_cut : GoodIn wsX12_laugh wsX12_cut := goodIn_r _ [9] rfl (by decide +kernel)
set_option maxRecDepth 20000 in
theorem gX12_laugh_X12_cut : GoodIn wsX12_laugh (va_wsS RX12 305 yX12_cut wsX12_cut) := goodIn_app (goodIn_of _ (by decide +kernel)) ggX12_laugh_X12_cut
set_option maxRecDepth 20000 in
theorem ggX12_laugh_X12_put : GoodIn wsX12_laugh wsX12_put := goodIn_r _ [13, 6, 18, 19, 20, 21, 22, 23, 24, 25, 26, 27, 28, 29, 30, 31, 32, 33, 34, 35, 36, 37, 38, 39, 40, 41, 42, 43, 44, 45, 46, 47, 48] rfl (by decide +kernel)
set_option maxRecDepth 20000 in
theorem gX12_laugh_X12_put : GoodIn wsX12_laugh (wsV RX12 76 RX12 yX12_put wsX12_put) := goodIn_app (goodIn_of _ (by decide +kernel)) ggX12_laugh_X12_put
set_option maxRecDepth 20000 in
theorem ggX12_laugh_X12_write : GoodIn wsX12_laugh wsX12_write := goodIn_r _ [17, 6, 18, 19, 20, 21, 22, 23, 24, 25, 26, 27, 28, 29, 30, 31, 32, 33, 34, 35, 36, 37, 38, 39, 40, 41, 42, 43, 44, 45, 46, 47, 48] rfl (by decide +kernel)
set_option maxRecDepth 20000 in
theorem gX12_laugh_X12_write : GoodIn wsX12_laugh (wsV RX12 336 RX12 yX12_write wsX12_write) := goodIn_app (goodIn_of _ (by decide +kernel)) ggX12_laugh_X12_write
theorem dX12_laugh_0 : decode cX12_laugh 0 = .ok (.aload_n 0, 1) := by decide +kernel
theorem dX12_laugh_1 : decode cX12_laugh 1 = .ok (.iload_n 1, 1) := by decide +kernel
theorem dX12_laugh_2 : decode cX12_laugh 2 = .ok (.iconst 3, 1) := by decide +kernel
theorem dX12_laugh_3 : decode cX12_laugh 3 = .ok (.aload_n 0, 1) := by decide +kernel
theorem dX12_laugh_4 : decode cX12_laugh 4 = .ok (.iload_n 1, 1) := by decide +kernel
theorem dX12_laugh_5 : decode cX12_laugh 5 = .ok (.iconst 3, 1) := by decide +kernel
theorem dX12_laugh_6 : decode cX12_laugh 6 = .ok (.invokevirtual 84, 3) := by decide +kernel
theorem dX12_laugh_9 : decode cX12_laugh 9 = .ok (.iconst 1, 1) := by decide +kernel
theorem dX12_laugh_10 : decode cX12_laugh 10 = .ok (.iadd, 1) := by decide +kernel
theorem dX12_laugh_11 : decode cX12_laugh 11 = .ok (.i2l, 1) := by decide +kernel
theorem dX12_laugh_12 : decode cX12_laugh 12 = .ok (.iconst 0, 1) := by decide +kernel
theorem dX12_laugh_13 : decode cX12_laugh 13 = .ok (.bipush 99, 2) := by decide +kernel
theorem dX12_laugh_15 : decode cX12_laugh 15 = .ok (.invokestatic 305, 3) := by decide +kernel
theorem dX12_laugh_18 : decode cX12_laugh 18 = .ok (.invokevirtual 76, 3) := by decide +kernel
theorem dX12_laugh_21 : decode cX12_laugh 21 = .ok (.aload_n 0, 1) := by decide +kernel
theorem dX12_laugh_22 : decode cX12_laugh 22 = .ok (.iload_n 1, 1) := by decide +kernel
theorem dX12_laugh_23 : decode cX12_laugh 23 = .ok (.iconst 2, 1) := by decide +kernel
theorem dX12_laugh_24 : decode cX12_laugh 24 = .ok (.invokevirtual 84, 3) := by decide +kernel
theorem dX12_laugh_27 : decode cX12_laugh 27 = .ok (.iconst (-1), 1) := by decide +kernel
theorem dX12_laugh_28 : decode cX12_laugh 28 = .ok (.if_icmp .ne 10, 3) := by decide +kernel
theorem dX12_laugh_31 : decode cX12_laugh 31 = .ok (.aload_n 0, 1) := by decide +kernel
theorem dX12_laugh_32 : decode cX12_laugh 32 = .ok (.iload_n 1, 1) := by decide +kernel
theorem dX12_laugh_33 : decode cX12_laugh 33 = .ok (.iconst 2, 1) := by decide +kernel
theorem dX12_laugh_34 : decode cX12_laugh 34 = .ok (.iload_n 2, 1) := by decide +kernel
theorem dX12_laugh_35 : decode cX12_laugh 35 = .ok (.invokevirtual 76, 3) := by decide +kernel
theorem dX12_laugh_38 : decode cX12_laugh 38 = .ok (.aload_n 0, 1) := by decide +kernel
theorem dX12_laugh_39 : decode cX12_laugh 39 = .ok (.iload_n 1, 1) := by decide +kernel
theorem dX12_laugh_40 : decode cX12_laugh 40 = .ok (.iload_n 2, 1) := by decide +kernel
theorem dX12_laugh_41 : decode cX12_laugh 41 = .ok (.invokevirtual 336, 3) := by decide +kernel
theorem dX12_laugh_44 : decode cX12_laugh 44 = .ok (.return_, 1) := by decide +kernel
set_option maxRecDepth 20000 in
theorem ggX12_fallNow_X12_comfortNow : GoodIn wsX12_fallNow wsX12_comfortNow := goodIn_r _ [6, 7, 8, 9, 5, 10, 1, 11, 12, 13, 14, 15, 16, 17, 18, 19, 20, 21, 22, 23, 24, 25, 26, 27, 28, 29, 30, 31, 32, 33, 34, 35, 36, 37, 38, 39, 40, 41, 42, 43, 44, 45, 46, 47, 48, 49, 50, 51, 52, 53, 54, 55, 56, 57, 58, 59, 60, 61, 62, 63, 64, 65, 66, 67, 68, 69, 70, 94, 95, 96, 97, 98, 99, 100, 101, 102, 103, 104, 105, 106, 107, 108, 109, 110, 111, 112, 113, 114, 115, 116, 117, 118, 119, 120, 121, 122, 123, 124] rfl (by decide +kernel)
set_option maxRecDepth 20000 in
theorem gX12_fallNow_X12_comfortNow : GoodIn wsX12_fallNow (wsV RX12 339 RX12 yX12_comfortNow wsX12_comfortNow) := goodIn_app (goodIn_of _ (by decide +kernel)) ggX12_fallNow_X12_comfortNow
set_option maxRecDepth 20000 in
theorem ggX12_fallNow_X12_laughsOf : GoodIn wsX12_fallNow wsX12_laughsOf := goodIn_r _ [74, 1, 19, 20, 21, 22, 5, 23, 7, 8, 9, 10, 24, 25, 26, 27, 11, 12, 13, 14, 28, 29, 30, 31, 32, 33, 34, 35, 36, 37, 38, 39, 40, 41, 42, 43, 44, 45, 46, 47, 48, 49, 50, 51, 52, 53, 54, 55, 56, 57, 58, 59, 60, 61, 62, 94, 95, 96, 97, 98, 99, 100, 101, 102, 103, 104, 105, 106, 107, 108, 109, 110, 111, 112, 113, 114, 115, 116, 117, 118, 119, 120, 121, 122, 123, 124] rfl (by decide +kernel)
set_option maxRecDepth 20000 in
theorem gX12_fallNow_X12_laughsOf : GoodIn wsX12_fallNow (wsV RX12 342 RX12 yX12_laughsOf wsX12_laughsOf) := goodIn_app (goodIn_of _ (by decide +kernel)) ggX12_fallNow_X12_laughsOf
set_option maxRecDepth 20000 in
theorem ggX12_fallNow_X12_anew : GoodIn wsX12_fallNow wsX12_anew := goodIn_r _ [78, 1, 79, 80, 81, 94, 95, 96, 97, 98, 99, 100, 101, 102, 103, 104, 105, 106, 107, 108, 109, 110, 111, 112, 113, 114, 115, 116, 117, 118, 119, 120, 121, 122, 123, 124] rfl (by decide +kernel)
set_option maxRecDepth 20000 in
theorem gX12_fallNow_X12_anew : GoodIn wsX12_fallNow (wsV RX12 345 RX12 yX12_anew wsX12_anew) := goodIn_app (goodIn_of _ (by decide +kernel)) ggX12_fallNow_X12_anew
set_option maxRecDepth 20000 in
theorem ggX12_fallNow_X12_own : GoodIn wsX12_fallNow wsX12_own := goodIn_r _ [10, 1, 94, 95, 96, 97, 98, 99, 100, 101, 102, 103, 104, 105, 106, 107, 108, 109, 110, 111, 112, 113, 114, 115, 116, 117, 118, 119, 120, 121, 122, 123, 124] rfl (by decide +kernel)
set_option maxRecDepth 20000 in
theorem gX12_fallNow_X12_own : GoodIn wsX12_fallNow (wsV RX12 72 RX12 yX12_own wsX12_own) := goodIn_app (goodIn_of _ (by decide +kernel)) ggX12_fallNow_X12_own
set_option maxRecDepth 20000 in
theorem ggX12_fallNow_X12_laugh : GoodIn wsX12_fallNow wsX12_laugh := goodIn_r _ [85, 11, 12, 13, 5, 14, 1, 60, 61, 62, 63, 64, 65, 66, 86, 87, 88, 89, 94, 95, 96, 97, 98, 99, 100, 101, 102, 103, 104, 105, 106, 107, 108, 109, 110, 111, 112, 113, 114, 115, 116, 117, 118, 119, 120, 121, 122, 123, 124] rfl (by decide +kernel)
set_option maxRecDepth 20000 in
theorem gX12_fallNow_X12_laugh : GoodIn wsX12_fallNow (wsV RX12 348 RX12 yX12_laugh wsX12_laugh) := goodIn_app (goodIn_of _ (by decide +kernel)) ggX12_fallNow_X12_laugh
set_option maxRecDepth 20000 in
theorem ggX12_fallNow_X12_lay : GoodIn wsX12_fallNow wsX12_lay := goodIn_r _ [93, 1, 94, 95, 96, 97, 98, 99, 100, 101, 102, 103, 104, 105, 106, 107, 108, 109, 110, 111, 112, 113, 114, 115, 116, 117, 118, 119, 120, 121, 122, 123, 124] rfl (by decide +kernel)
set_option maxRecDepth 20000 in
theorem gX12_fallNow_X12_lay : GoodIn wsX12_fallNow (wsV RX12 87 RX12 yX12_lay wsX12_lay) := goodIn_app (goodIn_of _ (by decide +kernel)) ggX12_fallNow_X12_lay
set_option maxRecDepth 20000 in
theorem ggX12_fallNow_X12_cut : GoodIn wsX12_fallNow wsX12_cut := goodIn_r _ [62] rfl (by decide +kernel)
set_option maxRecDepth 20000 in
theorem gX12_fallNow_X12_cut : GoodIn wsX12_fallNow (va_wsS RX12 305 yX12_cut wsX12_cut) := goodIn_app (goodIn_of _ (by decide +kernel)) ggX12_fallNow_X12_cut
theorem dX12_fallNow_0 : decode cX12_fallNow 0 = .ok (.aload_n 0, 1) := by decide +kernel
theorem dX12_fallNow_1 : decode cX12_fallNow 1 = .ok (.iload_n 1, 1) := by decide +kernel
theorem dX12_fallNow_2 : decode cX12_fallNow 2 = .ok (.iload_n 2, 1) := by decide +kernel
theorem dX12_fallNow_3 : decode cX12_fallNow 3 = .ok (.invokevirtual 339, 3) := by decide +kernel
theorem dX12_fallNow_6 : decode cX12_fallNow 6 = .ok (.aload_n 0, 1) := by decide +kernel
theorem dX12_fallNow_7 : decode cX12_fallNow 7 = .ok (.iload_n 1, 1) := by decide +kernel
theorem dX12_fallNow_8 : decode cX12_fallNow 8 = .ok (.iload_n 2, 1) := by decide +kernel
theorem dX12_fallNow_9 : decode cX12_fallNow 9 = .ok (.invokevirtual 342, 3) := by decide +kernel
theorem dX12_fallNow_12 : decode cX12_fallNow 12 = .ok (.istore_n 3, 1) := by decide +kernel
theorem dX12_fallNow_13 : decode cX12_fallNow 13 = .ok (.aload_n 0, 1) := by decide +kernel
theorem dX12_fallNow_14 : decode cX12_fallNow 14 = .ok (.getfield 7, 3) := by decide +kernel
theorem dX12_fallNow_17 : decode cX12_fallNow 17 = .ok (.bipush 8, 2) := by decide +kernel
theorem dX12_fallNow_19 : decode cX12_fallNow 19 = .ok (.iaload, 1) := by decide +kernel
theorem dX12_fallNow_20 : decode cX12_fallNow 20 = .ok (.bipush 10, 2) := by decide +kernel
theorem dX12_fallNow_22 : decode cX12_fallNow 22 = .ok (.irem, 1) := by decide +kernel
theorem dX12_fallNow_23 : decode cX12_fallNow 23 = .ok (.iload_n 3, 1) := by decide +kernel
theorem dX12_fallNow_24 : decode cX12_fallNow 24 = .ok (.if_icmp .ge 7, 3) := by decide +kernel
theorem dX12_fallNow_27 : decode cX12_fallNow 27 = .ok (.iconst 1, 1) := by decide +kernel
theorem dX12_fallNow_28 : decode cX12_fallNow 28 = .ok (.goto 4, 3) := by decide +kernel
theorem dX12_fallNow_31 : decode cX12_fallNow 31 = .ok (.iconst 0, 1) := by decide +kernel
theorem dX12_fallNow_32 : decode cX12_fallNow 32 = .ok (.istore 4, 2) := by decide +kernel
theorem dX12_fallNow_34 : decode cX12_fallNow 34 = .ok (.aload_n 0, 1) := by decide +kernel
theorem dX12_fallNow_35 : decode cX12_fallNow 35 = .ok (.invokevirtual 345, 3) := by decide +kernel
theorem dX12_fallNow_38 : decode cX12_fallNow 38 = .ok (.iload 4, 2) := by decide +kernel
theorem dX12_fallNow_40 : decode cX12_fallNow 40 = .ok (.ifCond .eq 14, 3) := by decide +kernel
theorem dX12_fallNow_43 : decode cX12_fallNow 43 = .ok (.aload_n 0, 1) := by decide +kernel
theorem dX12_fallNow_44 : decode cX12_fallNow 44 = .ok (.aload_n 0, 1) := by decide +kernel
theorem dX12_fallNow_45 : decode cX12_fallNow 45 = .ok (.iload_n 1, 1) := by decide +kernel
theorem dX12_fallNow_46 : decode cX12_fallNow 46 = .ok (.iconst 1, 1) := by decide +kernel
theorem dX12_fallNow_47 : decode cX12_fallNow 47 = .ok (.invokevirtual 72, 3) := by decide +kernel
theorem dX12_fallNow_50 : decode cX12_fallNow 50 = .ok (.iload_n 1, 1) := by decide +kernel
theorem dX12_fallNow_51 : decode cX12_fallNow 51 = .ok (.invokevirtual 348, 3) := by decide +kernel
theorem dX12_fallNow_54 : decode cX12_fallNow 54 = .ok (.aload_n 0, 1) := by decide +kernel
theorem dX12_fallNow_55 : decode cX12_fallNow 55 = .ok (.iload_n 1, 1) := by decide +kernel
theorem dX12_fallNow_56 : decode cX12_fallNow 56 = .ok (.iconst 0, 1) := by decide +kernel
theorem dX12_fallNow_57 : decode cX12_fallNow 57 = .ok (.aload_n 0, 1) := by decide +kernel
theorem dX12_fallNow_58 : decode cX12_fallNow 58 = .ok (.iload_n 1, 1) := by decide +kernel
theorem dX12_fallNow_59 : decode cX12_fallNow 59 = .ok (.iconst 0, 1) := by decide +kernel
theorem dX12_fallNow_60 : decode cX12_fallNow 60 = .ok (.invokevirtual 72, 3) := by decide +kernel
theorem dX12_fallNow_63 : decode cX12_fallNow 63 = .ok (.iconst 1, 1) := by decide +kernel
theorem dX12_fallNow_64 : decode cX12_fallNow 64 = .ok (.iadd, 1) := by decide +kernel
theorem dX12_fallNow_65 : decode cX12_fallNow 65 = .ok (.invokevirtual 87, 3) := by decide +kernel
theorem dX12_fallNow_68 : decode cX12_fallNow 68 = .ok (.aload_n 0, 1) := by decide +kernel
theorem dX12_fallNow_69 : decode cX12_fallNow 69 = .ok (.iload_n 1, 1) := by decide +kernel
theorem dX12_fallNow_70 : decode cX12_fallNow 70 = .ok (.iconst 2, 1) := by decide +kernel
theorem dX12_fallNow_71 : decode cX12_fallNow 71 = .ok (.aload_n 0, 1) := by decide +kernel
theorem dX12_fallNow_72 : decode cX12_fallNow 72 = .ok (.iload_n 1, 1) := by decide +kernel
theorem dX12_fallNow_73 : decode cX12_fallNow 73 = .ok (.iconst 2, 1) := by decide +kernel
theorem dX12_fallNow_74 : decode cX12_fallNow 74 = .ok (.invokevirtual 72, 3) := by decide +kernel
theorem dX12_fallNow_77 : decode cX12_fallNow 77 = .ok (.iconst 1, 1) := by decide +kernel
theorem dX12_fallNow_78 : decode cX12_fallNow 78 = .ok (.iadd, 1) := by decide +kernel
theorem dX12_fallNow_79 : decode cX12_fallNow 79 = .ok (.i2l, 1) := by decide +kernel
theorem dX12_fallNow_80 : decode cX12_fallNow 80 = .ok (.iconst 0, 1) := by decide +kernel
theorem dX12_fallNow_81 : decode cX12_fallNow 81 = .ok (.sipush 9999, 3) := by decide +kernel
theorem dX12_fallNow_84 : decode cX12_fallNow 84 = .ok (.invokestatic 305, 3) := by decide +kernel
theorem dX12_fallNow_87 : decode cX12_fallNow 87 = .ok (.invokevirtual 87, 3) := by decide +kernel
theorem dX12_fallNow_90 : decode cX12_fallNow 90 = .ok (.return_, 1) := by decide +kernel
set_option maxRecDepth 20000 in
theorem ggX12_pass_X12_get : GoodIn wsX12_pass wsX12_get := goodIn_r _ [6, 1, 70, 71, 72, 73, 74, 75, 76, 77, 78, 79, 80, 81, 82, 83, 84, 85, 86, 87, 88, 89, 90, 91, 92, 93, 94, 95, 96, 97, 98, 99, 100] rfl (by decide +kernel)
set_option maxRecDepth 20000 in
theorem gX12_pass_X12_get : GoodIn wsX12_pass (wsV RX12 84 RX12 yX12_get wsX12_get) := goodIn_app (goodIn_of _ (by decide +kernel)) ggX12_pass_X12_get
set_option maxRecDepth 20000 in
theorem ggX12_pass_X12_growsOf : GoodIn wsX12_pass wsX12_growsOf := goodIn_r _ [10, 11, 12, 13, 14, 5, 15, 1, 2, 3, 4, 6, 16, 17, 18, 19, 20, 21, 22, 23, 24, 25, 26, 27, 28, 29, 30, 31, 32, 33, 34, 35, 36, 37, 38, 39, 40, 41, 42, 43, 44, 45, 46, 47, 48, 49, 50, 51, 52, 53, 54, 55, 56, 57, 58, 59, 60, 61, 70, 71, 72, 73, 74, 75, 76, 77, 78, 79, 80, 81, 82, 83, 84, 85, 86, 87, 88, 89, 90, 91, 92, 93, 94, 95, 96, 97, 98, 99, 100] rfl (by decide +kernel)
set_option maxRecDepth 20000 in
theorem gX12_pass_X12_growsOf : GoodIn wsX12_pass (wsV RX12 351 RX12 yX12_growsOf wsX12_growsOf) := goodIn_app (goodIn_of _ (by decide +kernel)) ggX12_pass_X12_growsOf
set_option maxRecDepth 20000 in
theorem ggX12_pass_X12_cut : GoodIn wsX12_pass wsX12_cut := goodIn_r _ [61] rfl (by decide +kernel)
set_option maxRecDepth 20000 in
theorem gX12_pass_X12_cut : GoodIn wsX12_pass (va_wsS RX12 305 yX12_cut wsX12_cut) := goodIn_app (goodIn_of _ (by decide +kernel)) ggX12_pass_X12_cut
set_option maxRecDepth 20000 in
theorem ggX12_pass_X12_put : GoodIn wsX12_pass wsX12_put := goodIn_r _ [65, 1, 70, 71, 72, 73, 74, 75, 76, 77, 78, 79, 80, 81, 82, 83, 84, 85, 86, 87, 88, 89, 90, 91, 92, 93, 94, 95, 96, 97, 98, 99, 100] rfl (by decide +kernel)
set_option maxRecDepth 20000 in
theorem gX12_pass_X12_put : GoodIn wsX12_pass (wsV RX12 76 RX12 yX12_put wsX12_put) := goodIn_app (goodIn_of _ (by decide +kernel)) ggX12_pass_X12_put
set_option maxRecDepth 20000 in
theorem ggX12_pass_X12_own : GoodIn wsX12_pass wsX12_own := goodIn_r _ [23, 1, 70, 71, 72, 73, 74, 75, 76, 77, 78, 79, 80, 81, 82, 83, 84, 85, 86, 87, 88, 89, 90, 91, 92, 93, 94, 95, 96, 97, 98, 99, 100] rfl (by decide +kernel)
set_option maxRecDepth 20000 in
theorem gX12_pass_X12_own : GoodIn wsX12_pass (wsV RX12 72 RX12 yX12_own wsX12_own) := goodIn_app (goodIn_of _ (by decide +kernel)) ggX12_pass_X12_own
set_option maxRecDepth 20000 in
theorem ggX12_pass_X12_lay : GoodIn wsX12_pass wsX12_lay := goodIn_r _ [69, 1, 70, 71, 72, 73, 74, 75, 76, 77, 78, 79, 80, 81, 82, 83, 84, 85, 86, 87, 88, 89, 90, 91, 92, 93, 94, 95, 96, 97, 98, 99, 100] rfl (by decide +kernel)
set_option maxRecDepth 20000 in
theorem gX12_pass_X12_lay : GoodIn wsX12_pass (wsV RX12 87 RX12 yX12_lay wsX12_lay) := goodIn_app (goodIn_of _ (by decide +kernel)) ggX12_pass_X12_lay
theorem dX12_pass_0 : decode cX12_pass 0 = .ok (.iconst 0, 1) := by decide +kernel
theorem dX12_pass_1 : decode cX12_pass 1 = .ok (.istore_n 1, 1) := by decide +kernel
theorem dX12_pass_2 : decode cX12_pass 2 = .ok (.iload_n 1, 1) := by decide +kernel
theorem dX12_pass_3 : decode cX12_pass 3 = .ok (.aload_n 0, 1) := by decide +kernel
theorem dX12_pass_4 : decode cX12_pass 4 = .ok (.getfield 7, 3) := by decide +kernel
theorem dX12_pass_7 : decode cX12_pass 7 = .ok (.iconst 0, 1) := by decide +kernel
theorem dX12_pass_8 : decode cX12_pass 8 = .ok (.iaload, 1) := by decide +kernel
theorem dX12_pass_9 : decode cX12_pass 9 = .ok (.if_icmp .ge 40, 3) := by decide +kernel
theorem dX12_pass_12 : decode cX12_pass 12 = .ok (.aload_n 0, 1) := by decide +kernel
theorem dX12_pass_13 : decode cX12_pass 13 = .ok (.iload_n 1, 1) := by decide +kernel
theorem dX12_pass_14 : decode cX12_pass 14 = .ok (.iconst 0, 1) := by decide +kernel
theorem dX12_pass_15 : decode cX12_pass 15 = .ok (.aload_n 0, 1) := by decide +kernel
theorem dX12_pass_16 : decode cX12_pass 16 = .ok (.iload_n 1, 1) := by decide +kernel
theorem dX12_pass_17 : decode cX12_pass 17 = .ok (.iconst 0, 1) := by decide +kernel
theorem dX12_pass_18 : decode cX12_pass 18 = .ok (.invokevirtual 84, 3) := by decide +kernel
theorem dX12_pass_21 : decode cX12_pass 21 = .ok (.aload_n 0, 1) := by decide +kernel
theorem dX12_pass_22 : decode cX12_pass 22 = .ok (.aload_n 0, 1) := by decide +kernel
theorem dX12_pass_23 : decode cX12_pass 23 = .ok (.getfield 7, 3) := by decide +kernel
theorem dX12_pass_26 : decode cX12_pass 26 = .ok (.iconst 3, 1) := by decide +kernel
theorem dX12_pass_27 : decode cX12_pass 27 = .ok (.iaload, 1) := by decide +kernel
theorem dX12_pass_28 : decode cX12_pass 28 = .ok (.iload_n 1, 1) := by decide +kernel
theorem dX12_pass_29 : decode cX12_pass 29 = .ok (.invokevirtual 351, 3) := by decide +kernel
theorem dX12_pass_32 : decode cX12_pass 32 = .ok (.iadd, 1) := by decide +kernel
theorem dX12_pass_33 : decode cX12_pass 33 = .ok (.i2l, 1) := by decide +kernel
theorem dX12_pass_34 : decode cX12_pass 34 = .ok (.iconst 0, 1) := by decide +kernel
theorem dX12_pass_35 : decode cX12_pass 35 = .ok (.bipush 99, 2) := by decide +kernel
theorem dX12_pass_37 : decode cX12_pass 37 = .ok (.invokestatic 305, 3) := by decide +kernel
theorem dX12_pass_40 : decode cX12_pass 40 = .ok (.invokevirtual 76, 3) := by decide +kernel
theorem dX12_pass_43 : decode cX12_pass 43 = .ok (.iinc 1 1, 3) := by decide +kernel
theorem dX12_pass_46 : decode cX12_pass 46 = .ok (.goto (-44), 3) := by decide +kernel
theorem dX12_pass_49 : decode cX12_pass 49 = .ok (.iconst 0, 1) := by decide +kernel
theorem dX12_pass_50 : decode cX12_pass 50 = .ok (.istore_n 1, 1) := by decide +kernel
theorem dX12_pass_51 : decode cX12_pass 51 = .ok (.iload_n 1, 1) := by decide +kernel
theorem dX12_pass_52 : decode cX12_pass 52 = .ok (.aload_n 0, 1) := by decide +kernel
theorem dX12_pass_53 : decode cX12_pass 53 = .ok (.getfield 7, 3) := by decide +kernel
theorem dX12_pass_56 : decode cX12_pass 56 = .ok (.iconst 1, 1) := by decide +kernel
theorem dX12_pass_57 : decode cX12_pass 57 = .ok (.iaload, 1) := by decide +kernel
theorem dX12_pass_58 : decode cX12_pass 58 = .ok (.if_icmp .ge 44, 3) := by decide +kernel
theorem dX12_pass_61 : decode cX12_pass 61 = .ok (.aload_n 0, 1) := by decide +kernel
theorem dX12_pass_62 : decode cX12_pass 62 = .ok (.iload_n 1, 1) := by decide +kernel
theorem dX12_pass_63 : decode cX12_pass 63 = .ok (.iconst 0, 1) := by decide +kernel
theorem dX12_pass_64 : decode cX12_pass 64 = .ok (.aload_n 0, 1) := by decide +kernel
theorem dX12_pass_65 : decode cX12_pass 65 = .ok (.iload_n 1, 1) := by decide +kernel
theorem dX12_pass_66 : decode cX12_pass 66 = .ok (.iconst 0, 1) := by decide +kernel
theorem dX12_pass_67 : decode cX12_pass 67 = .ok (.invokevirtual 72, 3) := by decide +kernel
theorem dX12_pass_70 : decode cX12_pass 70 = .ok (.aload_n 0, 1) := by decide +kernel
theorem dX12_pass_71 : decode cX12_pass 71 = .ok (.iload_n 1, 1) := by decide +kernel
theorem dX12_pass_72 : decode cX12_pass 72 = .ok (.iconst 1, 1) := by decide +kernel
theorem dX12_pass_73 : decode cX12_pass 73 = .ok (.invokevirtual 72, 3) := by decide +kernel
theorem dX12_pass_76 : decode cX12_pass 76 = .ok (.iconst (-1), 1) := by decide +kernel
theorem dX12_pass_77 : decode cX12_pass 77 = .ok (.if_icmp .ne 7, 3) := by decide +kernel
theorem dX12_pass_80 : decode cX12_pass 80 = .ok (.iconst 3, 1) := by decide +kernel
theorem dX12_pass_81 : decode cX12_pass 81 = .ok (.goto 4, 3) := by decide +kernel
theorem dX12_pass_84 : decode cX12_pass 84 = .ok (.iconst 1, 1) := by decide +kernel
theorem dX12_pass_85 : decode cX12_pass 85 = .ok (.isub, 1) := by decide +kernel
theorem dX12_pass_86 : decode cX12_pass 86 = .ok (.i2l, 1) := by decide +kernel
theorem dX12_pass_87 : decode cX12_pass 87 = .ok (.iconst 0, 1) := by decide +kernel
theorem dX12_pass_88 : decode cX12_pass 88 = .ok (.bipush 9, 2) := by decide +kernel
theorem dX12_pass_90 : decode cX12_pass 90 = .ok (.invokestatic 305, 3) := by decide +kernel
theorem dX12_pass_93 : decode cX12_pass 93 = .ok (.invokevirtual 87, 3) := by decide +kernel
theorem dX12_pass_96 : decode cX12_pass 96 = .ok (.iinc 1 1, 3) := by decide +kernel
theorem dX12_pass_99 : decode cX12_pass 99 = .ok (.goto (-48), 3) := by decide +kernel
theorem dX12_pass_102 : decode cX12_pass 102 = .ok (.aload_n 0, 1) := by decide +kernel
theorem dX12_pass_103 : decode cX12_pass 103 = .ok (.getfield 7, 3) := by decide +kernel
theorem dX12_pass_106 : decode cX12_pass 106 = .ok (.bipush 7, 2) := by decide +kernel
theorem dX12_pass_108 : decode cX12_pass 108 = .ok (.dup2, 1) := by decide +kernel
theorem dX12_pass_109 : decode cX12_pass 109 = .ok (.iaload, 1) := by decide +kernel
theorem dX12_pass_110 : decode cX12_pass 110 = .ok (.iconst 1, 1) := by decide +kernel
theorem dX12_pass_111 : decode cX12_pass 111 = .ok (.iadd, 1) := by decide +kernel
theorem dX12_pass_112 : decode cX12_pass 112 = .ok (.iastore, 1) := by decide +kernel
theorem dX12_pass_113 : decode cX12_pass 113 = .ok (.return_, 1) := by decide +kernel
set_option maxRecDepth 20000 in
theorem ggX12_keep_X12_get : GoodIn wsX12_keep wsX12_get := goodIn_r _ [6, 1, 11, 12, 13, 14, 15, 16, 17, 18, 19, 20, 21, 22, 23, 24, 25, 26, 27, 28, 29, 30, 31, 32, 33, 34, 35, 36, 37, 38, 39, 40, 41] rfl (by decide +kernel)
set_option maxRecDepth 20000 in
theorem gX12_keep_X12_get : GoodIn wsX12_keep (wsV RX12 84 RX12 yX12_get wsX12_get) := goodIn_app (goodIn_of _ (by decide +kernel)) ggX12_keep_X12_get
set_option maxRecDepth 20000 in
theorem ggX12_keep_X12_own : GoodIn wsX12_keep wsX12_own := goodIn_r _ [10, 1, 11, 12, 13, 14, 15, 16, 17, 18, 19, 20, 21, 22, 23, 24, 25, 26, 27, 28, 29, 30, 31, 32, 33, 34, 35, 36, 37, 38, 39, 40, 41] rfl (by decide +kernel)
set_option maxRecDepth 20000 in
theorem gX12_keep_X12_own : GoodIn wsX12_keep (wsV RX12 72 RX12 yX12_own wsX12_own) := goodIn_app (goodIn_of _ (by decide +kernel)) ggX12_keep_X12_own
theorem dX12_keep_0 : decode cX12_keep 0 = .ok (.aload_n 0, 1) := by decide +kernel
theorem dX12_keep_1 : decode cX12_keep 1 = .ok (.getfield 7, 3) := by decide +kernel
theorem dX12_keep_4 : decode cX12_keep 4 = .ok (.iconst 4, 1) := by decide +kernel
theorem dX12_keep_5 : decode cX12_keep 5 = .ok (.iaload, 1) := by decide +kernel
theorem dX12_keep_6 : decode cX12_keep 6 = .ok (.bipush 30, 2) := by decide +kernel
theorem dX12_keep_8 : decode cX12_keep 8 = .ok (.if_icmp .ne 48, 3) := by decide +kernel
theorem dX12_keep_11 : decode cX12_keep 11 = .ok (.iconst 0, 1) := by decide +kernel
theorem dX12_keep_12 : decode cX12_keep 12 = .ok (.istore_n 1, 1) := by decide +kernel
theorem dX12_keep_13 : decode cX12_keep 13 = .ok (.iload_n 1, 1) := by decide +kernel
theorem dX12_keep_14 : decode cX12_keep 14 = .ok (.sipush 2146, 3) := by decide +kernel
theorem dX12_keep_17 : decode cX12_keep 17 = .ok (.if_icmp .ge 29, 3) := by decide +kernel
theorem dX12_keep_20 : decode cX12_keep 20 = .ok (.aload_n 0, 1) := by decide +kernel
theorem dX12_keep_21 : decode cX12_keep 21 = .ok (.getfield 7, 3) := by decide +kernel
theorem dX12_keep_24 : decode cX12_keep 24 = .ok (.sipush 204, 3) := by decide +kernel
theorem dX12_keep_27 : decode cX12_keep 27 = .ok (.iload_n 1, 1) := by decide +kernel
theorem dX12_keep_28 : decode cX12_keep 28 = .ok (.iadd, 1) := by decide +kernel
theorem dX12_keep_29 : decode cX12_keep 29 = .ok (.aload_n 0, 1) := by decide +kernel
theorem dX12_keep_30 : decode cX12_keep 30 = .ok (.getfield 7, 3) := by decide +kernel
theorem dX12_keep_33 : decode cX12_keep 33 = .ok (.sipush 278, 3) := by decide +kernel
theorem dX12_keep_36 : decode cX12_keep 36 = .ok (.iload_n 1, 1) := by decide +kernel
theorem dX12_keep_37 : decode cX12_keep 37 = .ok (.iadd, 1) := by decide +kernel
theorem dX12_keep_38 : decode cX12_keep 38 = .ok (.iaload, 1) := by decide +kernel
theorem dX12_keep_39 : decode cX12_keep 39 = .ok (.iastore, 1) := by decide +kernel
theorem dX12_keep_40 : decode cX12_keep 40 = .ok (.iinc 1 1, 3) := by decide +kernel
theorem dX12_keep_43 : decode cX12_keep 43 = .ok (.goto (-30), 3) := by decide +kernel
theorem dX12_keep_46 : decode cX12_keep 46 = .ok (.aload_n 0, 1) := by decide +kernel
theorem dX12_keep_47 : decode cX12_keep 47 = .ok (.getfield 7, 3) := by decide +kernel
theorem dX12_keep_50 : decode cX12_keep 50 = .ok (.iconst 4, 1) := by decide +kernel
theorem dX12_keep_51 : decode cX12_keep 51 = .ok (.dup2, 1) := by decide +kernel
theorem dX12_keep_52 : decode cX12_keep 52 = .ok (.iaload, 1) := by decide +kernel
theorem dX12_keep_53 : decode cX12_keep 53 = .ok (.iconst 1, 1) := by decide +kernel
theorem dX12_keep_54 : decode cX12_keep 54 = .ok (.isub, 1) := by decide +kernel
theorem dX12_keep_55 : decode cX12_keep 55 = .ok (.iastore, 1) := by decide +kernel
theorem dX12_keep_56 : decode cX12_keep 56 = .ok (.sipush 204, 3) := by decide +kernel
theorem dX12_keep_59 : decode cX12_keep 59 = .ok (.bipush 74, 2) := by decide +kernel
theorem dX12_keep_61 : decode cX12_keep 61 = .ok (.aload_n 0, 1) := by decide +kernel
theorem dX12_keep_62 : decode cX12_keep 62 = .ok (.getfield 7, 3) := by decide +kernel
theorem dX12_keep_65 : decode cX12_keep 65 = .ok (.iconst 4, 1) := by decide +kernel
theorem dX12_keep_66 : decode cX12_keep 66 = .ok (.iaload, 1) := by decide +kernel
theorem dX12_keep_67 : decode cX12_keep 67 = .ok (.imul, 1) := by decide +kernel
theorem dX12_keep_68 : decode cX12_keep 68 = .ok (.iadd, 1) := by decide +kernel
theorem dX12_keep_69 : decode cX12_keep 69 = .ok (.istore_n 1, 1) := by decide +kernel
theorem dX12_keep_70 : decode cX12_keep 70 = .ok (.aload_n 0, 1) := by decide +kernel
theorem dX12_keep_71 : decode cX12_keep 71 = .ok (.getfield 7, 3) := by decide +kernel
theorem dX12_keep_74 : decode cX12_keep 74 = .ok (.iload_n 1, 1) := by decide +kernel
theorem dX12_keep_75 : decode cX12_keep 75 = .ok (.aload_n 0, 1) := by decide +kernel
theorem dX12_keep_76 : decode cX12_keep 76 = .ok (.getfield 7, 3) := by decide +kernel
theorem dX12_keep_79 : decode cX12_keep 79 = .ok (.iconst 0, 1) := by decide +kernel
theorem dX12_keep_80 : decode cX12_keep 80 = .ok (.iaload, 1) := by decide +kernel
theorem dX12_keep_81 : decode cX12_keep 81 = .ok (.iastore, 1) := by decide +kernel
theorem dX12_keep_82 : decode cX12_keep 82 = .ok (.aload_n 0, 1) := by decide +kernel
theorem dX12_keep_83 : decode cX12_keep 83 = .ok (.getfield 7, 3) := by decide +kernel
theorem dX12_keep_86 : decode cX12_keep 86 = .ok (.iload_n 1, 1) := by decide +kernel
theorem dX12_keep_87 : decode cX12_keep 87 = .ok (.iconst 1, 1) := by decide +kernel
theorem dX12_keep_88 : decode cX12_keep 88 = .ok (.iadd, 1) := by decide +kernel
theorem dX12_keep_89 : decode cX12_keep 89 = .ok (.aload_n 0, 1) := by decide +kernel
theorem dX12_keep_90 : decode cX12_keep 90 = .ok (.getfield 7, 3) := by decide +kernel
theorem dX12_keep_93 : decode cX12_keep 93 = .ok (.iconst 1, 1) := by decide +kernel
theorem dX12_keep_94 : decode cX12_keep 94 = .ok (.iaload, 1) := by decide +kernel
theorem dX12_keep_95 : decode cX12_keep 95 = .ok (.iastore, 1) := by decide +kernel
theorem dX12_keep_96 : decode cX12_keep 96 = .ok (.iconst 0, 1) := by decide +kernel
theorem dX12_keep_97 : decode cX12_keep 97 = .ok (.istore_n 2, 1) := by decide +kernel
theorem dX12_keep_98 : decode cX12_keep 98 = .ok (.iload_n 2, 1) := by decide +kernel
theorem dX12_keep_99 : decode cX12_keep 99 = .ok (.iconst 3, 1) := by decide +kernel
theorem dX12_keep_100 : decode cX12_keep 100 = .ok (.if_icmp .ge 28, 3) := by decide +kernel
theorem dX12_keep_103 : decode cX12_keep 103 = .ok (.aload_n 0, 1) := by decide +kernel
theorem dX12_keep_104 : decode cX12_keep 104 = .ok (.getfield 7, 3) := by decide +kernel
theorem dX12_keep_107 : decode cX12_keep 107 = .ok (.iload_n 1, 1) := by decide +kernel
theorem dX12_keep_108 : decode cX12_keep 108 = .ok (.iconst 2, 1) := by decide +kernel
theorem dX12_keep_109 : decode cX12_keep 109 = .ok (.iadd, 1) := by decide +kernel
theorem dX12_keep_110 : decode cX12_keep 110 = .ok (.iload_n 2, 1) := by decide +kernel
theorem dX12_keep_111 : decode cX12_keep 111 = .ok (.iadd, 1) := by decide +kernel
theorem dX12_keep_112 : decode cX12_keep 112 = .ok (.aload_n 0, 1) := by decide +kernel
theorem dX12_keep_113 : decode cX12_keep 113 = .ok (.getfield 7, 3) := by decide +kernel
theorem dX12_keep_116 : decode cX12_keep 116 = .ok (.bipush 7, 2) := by decide +kernel
theorem dX12_keep_118 : decode cX12_keep 118 = .ok (.iload_n 2, 1) := by decide +kernel
theorem dX12_keep_119 : decode cX12_keep 119 = .ok (.iadd, 1) := by decide +kernel
theorem dX12_keep_120 : decode cX12_keep 120 = .ok (.iaload, 1) := by decide +kernel
theorem dX12_keep_121 : decode cX12_keep 121 = .ok (.iastore, 1) := by decide +kernel
theorem dX12_keep_122 : decode cX12_keep 122 = .ok (.iinc 2 1, 3) := by decide +kernel
theorem dX12_keep_125 : decode cX12_keep 125 = .ok (.goto (-27), 3) := by decide +kernel
theorem dX12_keep_128 : decode cX12_keep 128 = .ok (.iconst 0, 1) := by decide +kernel
theorem dX12_keep_129 : decode cX12_keep 129 = .ok (.istore_n 2, 1) := by decide +kernel
theorem dX12_keep_130 : decode cX12_keep 130 = .ok (.iload_n 2, 1) := by decide +kernel
theorem dX12_keep_131 : decode cX12_keep 131 = .ok (.bipush 6, 2) := by decide +kernel
theorem dX12_keep_133 : decode cX12_keep 133 = .ok (.if_icmp .ge 42, 3) := by decide +kernel
theorem dX12_keep_136 : decode cX12_keep 136 = .ok (.iconst 0, 1) := by decide +kernel
theorem dX12_keep_137 : decode cX12_keep 137 = .ok (.istore_n 3, 1) := by decide +kernel
theorem dX12_keep_138 : decode cX12_keep 138 = .ok (.iload_n 3, 1) := by decide +kernel
theorem dX12_keep_139 : decode cX12_keep 139 = .ok (.iconst 4, 1) := by decide +kernel
theorem dX12_keep_140 : decode cX12_keep 140 = .ok (.if_icmp .ge 29, 3) := by decide +kernel
theorem dX12_keep_143 : decode cX12_keep 143 = .ok (.aload_n 0, 1) := by decide +kernel
theorem dX12_keep_144 : decode cX12_keep 144 = .ok (.getfield 7, 3) := by decide +kernel
theorem dX12_keep_147 : decode cX12_keep 147 = .ok (.iload_n 1, 1) := by decide +kernel
theorem dX12_keep_148 : decode cX12_keep 148 = .ok (.iconst 5, 1) := by decide +kernel
theorem dX12_keep_149 : decode cX12_keep 149 = .ok (.iadd, 1) := by decide +kernel
theorem dX12_keep_150 : decode cX12_keep 150 = .ok (.iconst 4, 1) := by decide +kernel
theorem dX12_keep_151 : decode cX12_keep 151 = .ok (.iload_n 2, 1) := by decide +kernel
theorem dX12_keep_152 : decode cX12_keep 152 = .ok (.imul, 1) := by decide +kernel
theorem dX12_keep_153 : decode cX12_keep 153 = .ok (.iadd, 1) := by decide +kernel
theorem dX12_keep_154 : decode cX12_keep 154 = .ok (.iload_n 3, 1) := by decide +kernel
theorem dX12_keep_155 : decode cX12_keep 155 = .ok (.iadd, 1) := by decide +kernel
theorem dX12_keep_156 : decode cX12_keep 156 = .ok (.aload_n 0, 1) := by decide +kernel
theorem dX12_keep_157 : decode cX12_keep 157 = .ok (.iload_n 2, 1) := by decide +kernel
theorem dX12_keep_158 : decode cX12_keep 158 = .ok (.iload_n 3, 1) := by decide +kernel
theorem dX12_keep_159 : decode cX12_keep 159 = .ok (.invokevirtual 84, 3) := by decide +kernel
theorem dX12_keep_162 : decode cX12_keep 162 = .ok (.iastore, 1) := by decide +kernel
theorem dX12_keep_163 : decode cX12_keep 163 = .ok (.iinc 3 1, 3) := by decide +kernel
theorem dX12_keep_166 : decode cX12_keep 166 = .ok (.goto (-28), 3) := by decide +kernel
theorem dX12_keep_169 : decode cX12_keep 169 = .ok (.iinc 2 1, 3) := by decide +kernel
theorem dX12_keep_172 : decode cX12_keep 172 = .ok (.goto (-42), 3) := by decide +kernel
theorem dX12_keep_175 : decode cX12_keep 175 = .ok (.iconst 0, 1) := by decide +kernel
theorem dX12_keep_176 : decode cX12_keep 176 = .ok (.istore_n 2, 1) := by decide +kernel
theorem dX12_keep_177 : decode cX12_keep 177 = .ok (.iload_n 2, 1) := by decide +kernel
theorem dX12_keep_178 : decode cX12_keep 178 = .ok (.iconst 5, 1) := by decide +kernel
theorem dX12_keep_179 : decode cX12_keep 179 = .ok (.if_icmp .ge 43, 3) := by decide +kernel
theorem dX12_keep_182 : decode cX12_keep 182 = .ok (.iconst 0, 1) := by decide +kernel
theorem dX12_keep_183 : decode cX12_keep 183 = .ok (.istore_n 3, 1) := by decide +kernel
theorem dX12_keep_184 : decode cX12_keep 184 = .ok (.iload_n 3, 1) := by decide +kernel
theorem dX12_keep_185 : decode cX12_keep 185 = .ok (.iconst 3, 1) := by decide +kernel
theorem dX12_keep_186 : decode cX12_keep 186 = .ok (.if_icmp .ge 30, 3) := by decide +kernel
theorem dX12_keep_189 : decode cX12_keep 189 = .ok (.aload_n 0, 1) := by decide +kernel
theorem dX12_keep_190 : decode cX12_keep 190 = .ok (.getfield 7, 3) := by decide +kernel
theorem dX12_keep_193 : decode cX12_keep 193 = .ok (.iload_n 1, 1) := by decide +kernel
theorem dX12_keep_194 : decode cX12_keep 194 = .ok (.bipush 29, 2) := by decide +kernel
theorem dX12_keep_196 : decode cX12_keep 196 = .ok (.iadd, 1) := by decide +kernel
theorem dX12_keep_197 : decode cX12_keep 197 = .ok (.iconst 3, 1) := by decide +kernel
theorem dX12_keep_198 : decode cX12_keep 198 = .ok (.iload_n 2, 1) := by decide +kernel
theorem dX12_keep_199 : decode cX12_keep 199 = .ok (.imul, 1) := by decide +kernel
theorem dX12_keep_200 : decode cX12_keep 200 = .ok (.iadd, 1) := by decide +kernel
theorem dX12_keep_201 : decode cX12_keep 201 = .ok (.iload_n 3, 1) := by decide +kernel
theorem dX12_keep_202 : decode cX12_keep 202 = .ok (.iadd, 1) := by decide +kernel
theorem dX12_keep_203 : decode cX12_keep 203 = .ok (.aload_n 0, 1) := by decide +kernel
theorem dX12_keep_204 : decode cX12_keep 204 = .ok (.iload_n 2, 1) := by decide +kernel
theorem dX12_keep_205 : decode cX12_keep 205 = .ok (.iload_n 3, 1) := by decide +kernel
theorem dX12_keep_206 : decode cX12_keep 206 = .ok (.invokevirtual 72, 3) := by decide +kernel
theorem dX12_keep_209 : decode cX12_keep 209 = .ok (.iastore, 1) := by decide +kernel
theorem dX12_keep_210 : decode cX12_keep 210 = .ok (.iinc 3 1, 3) := by decide +kernel
theorem dX12_keep_213 : decode cX12_keep 213 = .ok (.goto (-29), 3) := by decide +kernel
theorem dX12_keep_216 : decode cX12_keep 216 = .ok (.iinc 2 1, 3) := by decide +kernel
theorem dX12_keep_219 : decode cX12_keep 219 = .ok (.goto (-42), 3) := by decide +kernel
theorem dX12_keep_222 : decode cX12_keep 222 = .ok (.iconst 0, 1) := by decide +kernel
theorem dX12_keep_223 : decode cX12_keep 223 = .ok (.istore_n 2, 1) := by decide +kernel
theorem dX12_keep_224 : decode cX12_keep 224 = .ok (.iload_n 2, 1) := by decide +kernel
theorem dX12_keep_225 : decode cX12_keep 225 = .ok (.bipush 30, 2) := by decide +kernel
theorem dX12_keep_227 : decode cX12_keep 227 = .ok (.if_icmp .ge 30, 3) := by decide +kernel
theorem dX12_keep_230 : decode cX12_keep 230 = .ok (.aload_n 0, 1) := by decide +kernel
theorem dX12_keep_231 : decode cX12_keep 231 = .ok (.getfield 7, 3) := by decide +kernel
theorem dX12_keep_234 : decode cX12_keep 234 = .ok (.iload_n 1, 1) := by decide +kernel
theorem dX12_keep_235 : decode cX12_keep 235 = .ok (.bipush 44, 2) := by decide +kernel
theorem dX12_keep_237 : decode cX12_keep 237 = .ok (.iadd, 1) := by decide +kernel
theorem dX12_keep_238 : decode cX12_keep 238 = .ok (.iload_n 2, 1) := by decide +kernel
theorem dX12_keep_239 : decode cX12_keep 239 = .ok (.iadd, 1) := by decide +kernel
theorem dX12_keep_240 : decode cX12_keep 240 = .ok (.aload_n 0, 1) := by decide +kernel
theorem dX12_keep_241 : decode cX12_keep 241 = .ok (.getfield 7, 3) := by decide +kernel
theorem dX12_keep_244 : decode cX12_keep 244 = .ok (.sipush 2424, 3) := by decide +kernel
theorem dX12_keep_247 : decode cX12_keep 247 = .ok (.iload_n 2, 1) := by decide +kernel
theorem dX12_keep_248 : decode cX12_keep 248 = .ok (.iadd, 1) := by decide +kernel
theorem dX12_keep_249 : decode cX12_keep 249 = .ok (.iaload, 1) := by decide +kernel
theorem dX12_keep_250 : decode cX12_keep 250 = .ok (.iastore, 1) := by decide +kernel
theorem dX12_keep_251 : decode cX12_keep 251 = .ok (.iinc 2 1, 3) := by decide +kernel
theorem dX12_keep_254 : decode cX12_keep 254 = .ok (.goto (-30), 3) := by decide +kernel
theorem dX12_keep_257 : decode cX12_keep 257 = .ok (.aload_n 0, 1) := by decide +kernel
theorem dX12_keep_258 : decode cX12_keep 258 = .ok (.getfield 7, 3) := by decide +kernel
theorem dX12_keep_261 : decode cX12_keep 261 = .ok (.iconst 4, 1) := by decide +kernel
theorem dX12_keep_262 : decode cX12_keep 262 = .ok (.dup2, 1) := by decide +kernel
theorem dX12_keep_263 : decode cX12_keep 263 = .ok (.iaload, 1) := by decide +kernel
theorem dX12_keep_264 : decode cX12_keep 264 = .ok (.iconst 1, 1) := by decide +kernel
theorem dX12_keep_265 : decode cX12_keep 265 = .ok (.iadd, 1) := by decide +kernel
theorem dX12_keep_266 : decode cX12_keep 266 = .ok (.iastore, 1) := by decide +kernel
theorem dX12_keep_267 : decode cX12_keep 267 = .ok (.return_, 1) := by decide +kernel
set_option maxRecDepth 20000 in
theorem ggX12_undo_X12_begin : GoodIn wsX12_undo wsX12_begin := goodIn_r _ [6, 7, 8, 9, 5, 10, 1, 11, 12, 13, 14, 23, 24, 25, 26, 27, 28, 29, 30, 31, 32, 33, 34, 35, 36, 37, 38, 39, 40, 41, 42, 43, 44, 45, 46, 47, 48, 49, 50, 51, 52, 53] rfl (by decide +kernel)
set_option maxRecDepth 20000 in
theorem gX12_undo_X12_begin : GoodIn wsX12_undo (wsV RX12 80 RX12 yX12_begin wsX12_begin) := goodIn_app (goodIn_of _ (by decide +kernel)) ggX12_undo_X12_begin
set_option maxRecDepth 20000 in
theorem ggX12_undo_X12_put : GoodIn wsX12_undo wsX12_put := goodIn_r _ [14, 1, 23, 24, 25, 26, 27, 28, 29, 30, 31, 32, 33, 34, 35, 36, 37, 38, 39, 40, 41, 42, 43, 44, 45, 46, 47, 48, 49, 50, 51, 52, 53] rfl (by decide +kernel)
set_option maxRecDepth 20000 in
theorem gX12_undo_X12_put : GoodIn wsX12_undo (wsV RX12 76 RX12 yX12_put wsX12_put) := goodIn_app (goodIn_of _ (by decide +kernel)) ggX12_undo_X12_put
set_option maxRecDepth 20000 in
theorem ggX12_undo_X12_arrive : GoodIn wsX12_undo wsX12_arrive := goodIn_r _ [18, 19, 20, 21, 5, 22, 1, 23, 24, 25, 26, 27, 28, 29, 30, 31, 32, 33, 34, 35, 36, 37, 38, 39, 40, 41, 42, 43, 44, 45, 46, 47, 48, 49, 50, 51, 52, 53] rfl (by decide +kernel)
set_option maxRecDepth 20000 in
theorem gX12_undo_X12_arrive : GoodIn wsX12_undo (wsV RX12 90 RX12 yX12_arrive wsX12_arrive) := goodIn_app (goodIn_of _ (by decide +kernel)) ggX12_undo_X12_arrive
set_option maxRecDepth 20000 in
theorem ggX12_undo_X12_lay : GoodIn wsX12_undo wsX12_lay := goodIn_r _ [22, 1, 23, 24, 25, 26, 27, 28, 29, 30, 31, 32, 33, 34, 35, 36, 37, 38, 39, 40, 41, 42, 43, 44, 45, 46, 47, 48, 49, 50, 51, 52, 53] rfl (by decide +kernel)
set_option maxRecDepth 20000 in
theorem gX12_undo_X12_lay : GoodIn wsX12_undo (wsV RX12 87 RX12 yX12_lay wsX12_lay) := goodIn_app (goodIn_of _ (by decide +kernel)) ggX12_undo_X12_lay
theorem dX12_undo_0 : decode cX12_undo 0 = .ok (.aload_n 0, 1) := by decide +kernel
theorem dX12_undo_1 : decode cX12_undo 1 = .ok (.getfield 7, 3) := by decide +kernel
theorem dX12_undo_4 : decode cX12_undo 4 = .ok (.iconst 4, 1) := by decide +kernel
theorem dX12_undo_5 : decode cX12_undo 5 = .ok (.iaload, 1) := by decide +kernel
theorem dX12_undo_6 : decode cX12_undo 6 = .ok (.ifCond .ne 5, 3) := by decide +kernel
theorem dX12_undo_9 : decode cX12_undo 9 = .ok (.iconst (-1), 1) := by decide +kernel
theorem dX12_undo_10 : decode cX12_undo 10 = .ok (.ireturn, 1) := by decide +kernel
theorem dX12_undo_11 : decode cX12_undo 11 = .ok (.aload_n 0, 1) := by decide +kernel
theorem dX12_undo_12 : decode cX12_undo 12 = .ok (.getfield 7, 3) := by decide +kernel
theorem dX12_undo_15 : decode cX12_undo 15 = .ok (.iconst 4, 1) := by decide +kernel
theorem dX12_undo_16 : decode cX12_undo 16 = .ok (.dup2, 1) := by decide +kernel
theorem dX12_undo_17 : decode cX12_undo 17 = .ok (.iaload, 1) := by decide +kernel
theorem dX12_undo_18 : decode cX12_undo 18 = .ok (.iconst 1, 1) := by decide +kernel
theorem dX12_undo_19 : decode cX12_undo 19 = .ok (.isub, 1) := by decide +kernel
theorem dX12_undo_20 : decode cX12_undo 20 = .ok (.iastore, 1) := by decide +kernel
theorem dX12_undo_21 : decode cX12_undo 21 = .ok (.sipush 204, 3) := by decide +kernel
theorem dX12_undo_24 : decode cX12_undo 24 = .ok (.bipush 74, 2) := by decide +kernel
theorem dX12_undo_26 : decode cX12_undo 26 = .ok (.aload_n 0, 1) := by decide +kernel
theorem dX12_undo_27 : decode cX12_undo 27 = .ok (.getfield 7, 3) := by decide +kernel
theorem dX12_undo_30 : decode cX12_undo 30 = .ok (.iconst 4, 1) := by decide +kernel
theorem dX12_undo_31 : decode cX12_undo 31 = .ok (.iaload, 1) := by decide +kernel
theorem dX12_undo_32 : decode cX12_undo 32 = .ok (.imul, 1) := by decide +kernel
theorem dX12_undo_33 : decode cX12_undo 33 = .ok (.iadd, 1) := by decide +kernel
theorem dX12_undo_34 : decode cX12_undo 34 = .ok (.istore_n 1, 1) := by decide +kernel
theorem dX12_undo_35 : decode cX12_undo 35 = .ok (.iconst 0, 1) := by decide +kernel
theorem dX12_undo_36 : decode cX12_undo 36 = .ok (.istore_n 2, 1) := by decide +kernel
theorem dX12_undo_37 : decode cX12_undo 37 = .ok (.iload_n 2, 1) := by decide +kernel
theorem dX12_undo_38 : decode cX12_undo 38 = .ok (.iconst 3, 1) := by decide +kernel
theorem dX12_undo_39 : decode cX12_undo 39 = .ok (.if_icmp .ge 28, 3) := by decide +kernel
theorem dX12_undo_42 : decode cX12_undo 42 = .ok (.aload_n 0, 1) := by decide +kernel
theorem dX12_undo_43 : decode cX12_undo 43 = .ok (.getfield 7, 3) := by decide +kernel
theorem dX12_undo_46 : decode cX12_undo 46 = .ok (.bipush 7, 2) := by decide +kernel
theorem dX12_undo_48 : decode cX12_undo 48 = .ok (.iload_n 2, 1) := by decide +kernel
theorem dX12_undo_49 : decode cX12_undo 49 = .ok (.iadd, 1) := by decide +kernel
theorem dX12_undo_50 : decode cX12_undo 50 = .ok (.aload_n 0, 1) := by decide +kernel
theorem dX12_undo_51 : decode cX12_undo 51 = .ok (.getfield 7, 3) := by decide +kernel
theorem dX12_undo_54 : decode cX12_undo 54 = .ok (.iload_n 1, 1) := by decide +kernel
theorem dX12_undo_55 : decode cX12_undo 55 = .ok (.iconst 2, 1) := by decide +kernel
theorem dX12_undo_56 : decode cX12_undo 56 = .ok (.iadd, 1) := by decide +kernel
theorem dX12_undo_57 : decode cX12_undo 57 = .ok (.iload_n 2, 1) := by decide +kernel
theorem dX12_undo_58 : decode cX12_undo 58 = .ok (.iadd, 1) := by decide +kernel
theorem dX12_undo_59 : decode cX12_undo 59 = .ok (.iaload, 1) := by decide +kernel
theorem dX12_undo_60 : decode cX12_undo 60 = .ok (.iastore, 1) := by decide +kernel
theorem dX12_undo_61 : decode cX12_undo 61 = .ok (.iinc 2 1, 3) := by decide +kernel
theorem dX12_undo_64 : decode cX12_undo 64 = .ok (.goto (-27), 3) := by decide +kernel
theorem dX12_undo_67 : decode cX12_undo 67 = .ok (.iconst 0, 1) := by decide +kernel
theorem dX12_undo_68 : decode cX12_undo 68 = .ok (.istore_n 2, 1) := by decide +kernel
theorem dX12_undo_69 : decode cX12_undo 69 = .ok (.iload_n 2, 1) := by decide +kernel
theorem dX12_undo_70 : decode cX12_undo 70 = .ok (.aload_n 0, 1) := by decide +kernel
theorem dX12_undo_71 : decode cX12_undo 71 = .ok (.getfield 7, 3) := by decide +kernel
theorem dX12_undo_74 : decode cX12_undo 74 = .ok (.iconst 0, 1) := by decide +kernel
theorem dX12_undo_75 : decode cX12_undo 75 = .ok (.iaload, 1) := by decide +kernel
theorem dX12_undo_76 : decode cX12_undo 76 = .ok (.if_icmp .ge 67, 3) := by decide +kernel
theorem dX12_undo_79 : decode cX12_undo 79 = .ok (.iload_n 2, 1) := by decide +kernel
theorem dX12_undo_80 : decode cX12_undo 80 = .ok (.aload_n 0, 1) := by decide +kernel
theorem dX12_undo_81 : decode cX12_undo 81 = .ok (.getfield 7, 3) := by decide +kernel
theorem dX12_undo_84 : decode cX12_undo 84 = .ok (.iload_n 1, 1) := by decide +kernel
theorem dX12_undo_85 : decode cX12_undo 85 = .ok (.iaload, 1) := by decide +kernel
theorem dX12_undo_86 : decode cX12_undo 86 = .ok (.if_icmp .lt 8, 3) := by decide +kernel
theorem dX12_undo_89 : decode cX12_undo 89 = .ok (.aload_n 0, 1) := by decide +kernel
theorem dX12_undo_90 : decode cX12_undo 90 = .ok (.iload_n 2, 1) := by decide +kernel
theorem dX12_undo_91 : decode cX12_undo 91 = .ok (.invokevirtual 80, 3) := by decide +kernel
theorem dX12_undo_94 : decode cX12_undo 94 = .ok (.iconst 0, 1) := by decide +kernel
theorem dX12_undo_95 : decode cX12_undo 95 = .ok (.istore_n 3, 1) := by decide +kernel
theorem dX12_undo_96 : decode cX12_undo 96 = .ok (.iload_n 3, 1) := by decide +kernel
theorem dX12_undo_97 : decode cX12_undo 97 = .ok (.iconst 4, 1) := by decide +kernel
theorem dX12_undo_98 : decode cX12_undo 98 = .ok (.if_icmp .ge 39, 3) := by decide +kernel
theorem dX12_undo_101 : decode cX12_undo 101 = .ok (.iload_n 2, 1) := by decide +kernel
theorem dX12_undo_102 : decode cX12_undo 102 = .ok (.aload_n 0, 1) := by decide +kernel
theorem dX12_undo_103 : decode cX12_undo 103 = .ok (.getfield 7, 3) := by decide +kernel
theorem dX12_undo_106 : decode cX12_undo 106 = .ok (.iload_n 1, 1) := by decide +kernel
theorem dX12_undo_107 : decode cX12_undo 107 = .ok (.iaload, 1) := by decide +kernel
theorem dX12_undo_108 : decode cX12_undo 108 = .ok (.if_icmp .ge 29, 3) := by decide +kernel
theorem dX12_undo_111 : decode cX12_undo 111 = .ok (.aload_n 0, 1) := by decide +kernel
theorem dX12_undo_112 : decode cX12_undo 112 = .ok (.iload_n 2, 1) := by decide +kernel
theorem dX12_undo_113 : decode cX12_undo 113 = .ok (.iload_n 3, 1) := by decide +kernel
theorem dX12_undo_114 : decode cX12_undo 114 = .ok (.aload_n 0, 1) := by decide +kernel
theorem dX12_undo_115 : decode cX12_undo 115 = .ok (.getfield 7, 3) := by decide +kernel
theorem dX12_undo_118 : decode cX12_undo 118 = .ok (.iload_n 1, 1) := by decide +kernel
theorem dX12_undo_119 : decode cX12_undo 119 = .ok (.iconst 5, 1) := by decide +kernel
theorem dX12_undo_120 : decode cX12_undo 120 = .ok (.iadd, 1) := by decide +kernel
theorem dX12_undo_121 : decode cX12_undo 121 = .ok (.iconst 4, 1) := by decide +kernel
theorem dX12_undo_122 : decode cX12_undo 122 = .ok (.iload_n 2, 1) := by decide +kernel
theorem dX12_undo_123 : decode cX12_undo 123 = .ok (.imul, 1) := by decide +kernel
theorem dX12_undo_124 : decode cX12_undo 124 = .ok (.iadd, 1) := by decide +kernel
theorem dX12_undo_125 : decode cX12_undo 125 = .ok (.iload_n 3, 1) := by decide +kernel
theorem dX12_undo_126 : decode cX12_undo 126 = .ok (.iadd, 1) := by decide +kernel
theorem dX12_undo_127 : decode cX12_undo 127 = .ok (.iaload, 1) := by decide +kernel
theorem dX12_undo_128 : decode cX12_undo 128 = .ok (.invokevirtual 76, 3) := by decide +kernel
theorem dX12_undo_131 : decode cX12_undo 131 = .ok (.iinc 3 1, 3) := by decide +kernel
theorem dX12_undo_134 : decode cX12_undo 134 = .ok (.goto (-38), 3) := by decide +kernel
theorem dX12_undo_137 : decode cX12_undo 137 = .ok (.iinc 2 1, 3) := by decide +kernel
theorem dX12_undo_140 : decode cX12_undo 140 = .ok (.goto (-71), 3) := by decide +kernel
theorem dX12_undo_143 : decode cX12_undo 143 = .ok (.iconst 0, 1) := by decide +kernel
theorem dX12_undo_144 : decode cX12_undo 144 = .ok (.istore_n 2, 1) := by decide +kernel
theorem dX12_undo_145 : decode cX12_undo 145 = .ok (.iload_n 2, 1) := by decide +kernel
theorem dX12_undo_146 : decode cX12_undo 146 = .ok (.aload_n 0, 1) := by decide +kernel
theorem dX12_undo_147 : decode cX12_undo 147 = .ok (.getfield 7, 3) := by decide +kernel
theorem dX12_undo_150 : decode cX12_undo 150 = .ok (.iconst 1, 1) := by decide +kernel
theorem dX12_undo_151 : decode cX12_undo 151 = .ok (.iaload, 1) := by decide +kernel
theorem dX12_undo_152 : decode cX12_undo 152 = .ok (.if_icmp .ge 72, 3) := by decide +kernel
theorem dX12_undo_155 : decode cX12_undo 155 = .ok (.iload_n 2, 1) := by decide +kernel
theorem dX12_undo_156 : decode cX12_undo 156 = .ok (.aload_n 0, 1) := by decide +kernel
theorem dX12_undo_157 : decode cX12_undo 157 = .ok (.getfield 7, 3) := by decide +kernel
theorem dX12_undo_160 : decode cX12_undo 160 = .ok (.iload_n 1, 1) := by decide +kernel
theorem dX12_undo_161 : decode cX12_undo 161 = .ok (.iconst 1, 1) := by decide +kernel
theorem dX12_undo_162 : decode cX12_undo 162 = .ok (.iadd, 1) := by decide +kernel
theorem dX12_undo_163 : decode cX12_undo 163 = .ok (.iaload, 1) := by decide +kernel
theorem dX12_undo_164 : decode cX12_undo 164 = .ok (.if_icmp .lt 8, 3) := by decide +kernel
theorem dX12_undo_167 : decode cX12_undo 167 = .ok (.aload_n 0, 1) := by decide +kernel
theorem dX12_undo_168 : decode cX12_undo 168 = .ok (.iload_n 2, 1) := by decide +kernel
theorem dX12_undo_169 : decode cX12_undo 169 = .ok (.invokevirtual 90, 3) := by decide +kernel
theorem dX12_undo_172 : decode cX12_undo 172 = .ok (.iconst 0, 1) := by decide +kernel
theorem dX12_undo_173 : decode cX12_undo 173 = .ok (.istore_n 3, 1) := by decide +kernel
theorem dX12_undo_174 : decode cX12_undo 174 = .ok (.iload_n 3, 1) := by decide +kernel
theorem dX12_undo_175 : decode cX12_undo 175 = .ok (.iconst 3, 1) := by decide +kernel
theorem dX12_undo_176 : decode cX12_undo 176 = .ok (.if_icmp .ge 42, 3) := by decide +kernel
theorem dX12_undo_179 : decode cX12_undo 179 = .ok (.iload_n 2, 1) := by decide +kernel
theorem dX12_undo_180 : decode cX12_undo 180 = .ok (.aload_n 0, 1) := by decide +kernel
theorem dX12_undo_181 : decode cX12_undo 181 = .ok (.getfield 7, 3) := by decide +kernel
theorem dX12_undo_184 : decode cX12_undo 184 = .ok (.iload_n 1, 1) := by decide +kernel
theorem dX12_undo_185 : decode cX12_undo 185 = .ok (.iconst 1, 1) := by decide +kernel
theorem dX12_undo_186 : decode cX12_undo 186 = .ok (.iadd, 1) := by decide +kernel
theorem dX12_undo_187 : decode cX12_undo 187 = .ok (.iaload, 1) := by decide +kernel
theorem dX12_undo_188 : decode cX12_undo 188 = .ok (.if_icmp .ge 30, 3) := by decide +kernel
theorem dX12_undo_191 : decode cX12_undo 191 = .ok (.aload_n 0, 1) := by decide +kernel
theorem dX12_undo_192 : decode cX12_undo 192 = .ok (.iload_n 2, 1) := by decide +kernel
theorem dX12_undo_193 : decode cX12_undo 193 = .ok (.iload_n 3, 1) := by decide +kernel
theorem dX12_undo_194 : decode cX12_undo 194 = .ok (.aload_n 0, 1) := by decide +kernel
theorem dX12_undo_195 : decode cX12_undo 195 = .ok (.getfield 7, 3) := by decide +kernel
theorem dX12_undo_198 : decode cX12_undo 198 = .ok (.iload_n 1, 1) := by decide +kernel
theorem dX12_undo_199 : decode cX12_undo 199 = .ok (.bipush 29, 2) := by decide +kernel
theorem dX12_undo_201 : decode cX12_undo 201 = .ok (.iadd, 1) := by decide +kernel
theorem dX12_undo_202 : decode cX12_undo 202 = .ok (.iconst 3, 1) := by decide +kernel
theorem dX12_undo_203 : decode cX12_undo 203 = .ok (.iload_n 2, 1) := by decide +kernel
theorem dX12_undo_204 : decode cX12_undo 204 = .ok (.imul, 1) := by decide +kernel
theorem dX12_undo_205 : decode cX12_undo 205 = .ok (.iadd, 1) := by decide +kernel
theorem dX12_undo_206 : decode cX12_undo 206 = .ok (.iload_n 3, 1) := by decide +kernel
theorem dX12_undo_207 : decode cX12_undo 207 = .ok (.iadd, 1) := by decide +kernel
theorem dX12_undo_208 : decode cX12_undo 208 = .ok (.iaload, 1) := by decide +kernel
theorem dX12_undo_209 : decode cX12_undo 209 = .ok (.invokevirtual 87, 3) := by decide +kernel
theorem dX12_undo_212 : decode cX12_undo 212 = .ok (.iinc 3 1, 3) := by decide +kernel
theorem dX12_undo_215 : decode cX12_undo 215 = .ok (.goto (-41), 3) := by decide +kernel
theorem dX12_undo_218 : decode cX12_undo 218 = .ok (.iinc 2 1, 3) := by decide +kernel
theorem dX12_undo_221 : decode cX12_undo 221 = .ok (.goto (-76), 3) := by decide +kernel
theorem dX12_undo_224 : decode cX12_undo 224 = .ok (.iconst 0, 1) := by decide +kernel
theorem dX12_undo_225 : decode cX12_undo 225 = .ok (.istore_n 2, 1) := by decide +kernel
theorem dX12_undo_226 : decode cX12_undo 226 = .ok (.iload_n 2, 1) := by decide +kernel
theorem dX12_undo_227 : decode cX12_undo 227 = .ok (.bipush 30, 2) := by decide +kernel
theorem dX12_undo_229 : decode cX12_undo 229 = .ok (.if_icmp .ge 30, 3) := by decide +kernel
theorem dX12_undo_232 : decode cX12_undo 232 = .ok (.aload_n 0, 1) := by decide +kernel
theorem dX12_undo_233 : decode cX12_undo 233 = .ok (.getfield 7, 3) := by decide +kernel
theorem dX12_undo_236 : decode cX12_undo 236 = .ok (.sipush 2424, 3) := by decide +kernel
theorem dX12_undo_239 : decode cX12_undo 239 = .ok (.iload_n 2, 1) := by decide +kernel
theorem dX12_undo_240 : decode cX12_undo 240 = .ok (.iadd, 1) := by decide +kernel
theorem dX12_undo_241 : decode cX12_undo 241 = .ok (.aload_n 0, 1) := by decide +kernel
theorem dX12_undo_242 : decode cX12_undo 242 = .ok (.getfield 7, 3) := by decide +kernel
theorem dX12_undo_245 : decode cX12_undo 245 = .ok (.iload_n 1, 1) := by decide +kernel
theorem dX12_undo_246 : decode cX12_undo 246 = .ok (.bipush 44, 2) := by decide +kernel
theorem dX12_undo_248 : decode cX12_undo 248 = .ok (.iadd, 1) := by decide +kernel
theorem dX12_undo_249 : decode cX12_undo 249 = .ok (.iload_n 2, 1) := by decide +kernel
theorem dX12_undo_250 : decode cX12_undo 250 = .ok (.iadd, 1) := by decide +kernel
theorem dX12_undo_251 : decode cX12_undo 251 = .ok (.iaload, 1) := by decide +kernel
theorem dX12_undo_252 : decode cX12_undo 252 = .ok (.iastore, 1) := by decide +kernel
theorem dX12_undo_253 : decode cX12_undo 253 = .ok (.iinc 2 1, 3) := by decide +kernel
theorem dX12_undo_256 : decode cX12_undo 256 = .ok (.goto (-30), 3) := by decide +kernel
theorem dX12_undo_259 : decode cX12_undo 259 = .ok (.aload_n 0, 1) := by decide +kernel
theorem dX12_undo_260 : decode cX12_undo 260 = .ok (.getfield 7, 3) := by decide +kernel
theorem dX12_undo_263 : decode cX12_undo 263 = .ok (.iconst 4, 1) := by decide +kernel
theorem dX12_undo_264 : decode cX12_undo 264 = .ok (.iaload, 1) := by decide +kernel
theorem dX12_undo_265 : decode cX12_undo 265 = .ok (.ireturn, 1) := by decide +kernel
set_option maxRecDepth 20000 in
theorem ggX12_canSend_X12_isClown : GoodIn wsX12_canSend wsX12_isClown := goodIn_r _ [5, 6, 7, 8, 4, 9, 18, 19, 20, 21, 22, 23, 24, 25, 26, 27, 28, 29, 30, 31, 32, 33, 34, 35, 36, 37, 38, 39, 40, 41, 42, 43, 44, 45, 46, 47, 48] rfl (by decide +kernel)
set_option maxRecDepth 20000 in
theorem gX12_canSend_X12_isClown : GoodIn wsX12_canSend (wsV RX12 354 RX12 yX12_isClown wsX12_isClown) := goodIn_app (goodIn_of _ (by decide +kernel)) ggX12_canSend_X12_isClown
set_option maxRecDepth 20000 in
theorem ggX12_canSend_X12_isHouse : GoodIn wsX12_canSend wsX12_isHouse := goodIn_r _ [13, 6, 7, 8, 4, 9, 18, 19, 20, 21, 22, 23, 24, 25, 26, 27, 28, 29, 30, 31, 32, 33, 34, 35, 36, 37, 38, 39, 40, 41, 42, 43, 44, 45, 46, 47, 48] rfl (by decide +kernel)
set_option maxRecDepth 20000 in
theorem gX12_canSend_X12_isHouse : GoodIn wsX12_canSend (wsV RX12 357 RX12 yX12_isHouse wsX12_isHouse) := goodIn_app (goodIn_of _ (by decide +kernel)) ggX12_canSend_X12_isHouse
set_option maxRecDepth 20000 in
theorem ggX12_canSend_X12_own : GoodIn wsX12_canSend wsX12_own := goodIn_r _ [17, 6, 18, 19, 20, 21, 22, 23, 24, 25, 26, 27, 28, 29, 30, 31, 32, 33, 34, 35, 36, 37, 38, 39, 40, 41, 42, 43, 44, 45, 46, 47, 48] rfl (by decide +kernel)
set_option maxRecDepth 20000 in
theorem gX12_canSend_X12_own : GoodIn wsX12_canSend (wsV RX12 72 RX12 yX12_own wsX12_own) := goodIn_app (goodIn_of _ (by decide +kernel)) ggX12_canSend_X12_own
theorem dX12_canSend_0 : decode cX12_canSend 0 = .ok (.aload_n 0, 1) := by decide +kernel
theorem dX12_canSend_1 : decode cX12_canSend 1 = .ok (.iload_n 1, 1) := by decide +kernel
theorem dX12_canSend_2 : decode cX12_canSend 2 = .ok (.invokevirtual 354, 3) := by decide +kernel
theorem dX12_canSend_5 : decode cX12_canSend 5 = .ok (.ifCond .eq 25, 3) := by decide +kernel
theorem dX12_canSend_8 : decode cX12_canSend 8 = .ok (.aload_n 0, 1) := by decide +kernel
theorem dX12_canSend_9 : decode cX12_canSend 9 = .ok (.iload_n 2, 1) := by decide +kernel
theorem dX12_canSend_10 : decode cX12_canSend 10 = .ok (.invokevirtual 357, 3) := by decide +kernel
theorem dX12_canSend_13 : decode cX12_canSend 13 = .ok (.ifCond .eq 17, 3) := by decide +kernel
theorem dX12_canSend_16 : decode cX12_canSend 16 = .ok (.aload_n 0, 1) := by decide +kernel
theorem dX12_canSend_17 : decode cX12_canSend 17 = .ok (.iload_n 1, 1) := by decide +kernel
theorem dX12_canSend_18 : decode cX12_canSend 18 = .ok (.iconst 1, 1) := by decide +kernel
theorem dX12_canSend_19 : decode cX12_canSend 19 = .ok (.invokevirtual 72, 3) := by decide +kernel
theorem dX12_canSend_22 : decode cX12_canSend 22 = .ok (.iload_n 2, 1) := by decide +kernel
theorem dX12_canSend_23 : decode cX12_canSend 23 = .ok (.if_icmp .eq 7, 3) := by decide +kernel
theorem dX12_canSend_26 : decode cX12_canSend 26 = .ok (.iconst 1, 1) := by decide +kernel
theorem dX12_canSend_27 : decode cX12_canSend 27 = .ok (.goto 4, 3) := by decide +kernel
theorem dX12_canSend_30 : decode cX12_canSend 30 = .ok (.iconst 0, 1) := by decide +kernel
theorem dX12_canSend_31 : decode cX12_canSend 31 = .ok (.ireturn, 1) := by decide +kernel
set_option maxRecDepth 20000 in
theorem ggX12_send_X12_canSend : GoodIn wsX12_send wsX12_canSend := goodIn_r _ [5, 6, 7, 8, 4, 9, 10, 11, 12, 13, 14, 15, 16, 17, 18, 19, 20, 21, 34, 35, 36, 37, 38, 39, 40, 41, 42, 43, 44, 45, 46, 47, 48, 49, 50, 51, 52, 53, 54, 55, 56, 57, 58, 59, 60, 61, 62, 63, 64] rfl (by decide +kernel)
set_option maxRecDepth 20000 in
theorem gX12_send_X12_canSend : GoodIn wsX12_send (wsV RX12 360 RX12 yX12_canSend wsX12_canSend) := goodIn_app (goodIn_of _ (by decide +kernel)) ggX12_send_X12_canSend
set_option maxRecDepth 20000 in
theorem ggX12_send_X12_keep : GoodIn wsX12_send wsX12_keep := goodIn_r _ [25, 10, 26, 27, 28, 4, 29, 18, 19, 20, 21, 34, 35, 36, 37, 38, 39, 40, 41, 42, 43, 44, 45, 46, 47, 48, 49, 50, 51, 52, 53, 54, 55, 56, 57, 58, 59, 60, 61, 62, 63, 64] rfl (by decide +kernel)
set_option maxRecDepth 20000 in
theorem gX12_send_X12_keep : GoodIn wsX12_send (wsV RX12 363 RX12 yX12_keep wsX12_keep) := goodIn_app (goodIn_of _ (by decide +kernel)) ggX12_send_X12_keep
set_option maxRecDepth 20000 in
theorem ggX12_send_X12_lay : GoodIn wsX12_send wsX12_lay := goodIn_r _ [33, 10, 34, 35, 36, 37, 38, 39, 40, 41, 42, 43, 44, 45, 46, 47, 48, 49, 50, 51, 52, 53, 54, 55, 56, 57, 58, 59, 60, 61, 62, 63, 64] rfl (by decide +kernel)
set_option maxRecDepth 20000 in
theorem gX12_send_X12_lay : GoodIn wsX12_send (wsV RX12 87 RX12 yX12_lay wsX12_lay) := goodIn_app (goodIn_of _ (by decide +kernel)) ggX12_send_X12_lay
theorem dX12_send_0 : decode cX12_send 0 = .ok (.aload_n 0, 1) := by decide +kernel
theorem dX12_send_1 : decode cX12_send 1 = .ok (.iload_n 1, 1) := by decide +kernel
theorem dX12_send_2 : decode cX12_send 2 = .ok (.iload_n 2, 1) := by decide +kernel
theorem dX12_send_3 : decode cX12_send 3 = .ok (.invokevirtual 360, 3) := by decide +kernel
theorem dX12_send_6 : decode cX12_send 6 = .ok (.ifCond .ne 5, 3) := by decide +kernel
theorem dX12_send_9 : decode cX12_send 9 = .ok (.iconst 0, 1) := by decide +kernel
theorem dX12_send_10 : decode cX12_send 10 = .ok (.ireturn, 1) := by decide +kernel
theorem dX12_send_11 : decode cX12_send 11 = .ok (.aload_n 0, 1) := by decide +kernel
theorem dX12_send_12 : decode cX12_send 12 = .ok (.invokevirtual 363, 3) := by decide +kernel
theorem dX12_send_15 : decode cX12_send 15 = .ok (.aload_n 0, 1) := by decide +kernel
theorem dX12_send_16 : decode cX12_send 16 = .ok (.iload_n 1, 1) := by decide +kernel
theorem dX12_send_17 : decode cX12_send 17 = .ok (.iconst 1, 1) := by decide +kernel
theorem dX12_send_18 : decode cX12_send 18 = .ok (.iload_n 2, 1) := by decide +kernel
theorem dX12_send_19 : decode cX12_send 19 = .ok (.invokevirtual 87, 3) := by decide +kernel
theorem dX12_send_22 : decode cX12_send 22 = .ok (.iconst 1, 1) := by decide +kernel
theorem dX12_send_23 : decode cX12_send 23 = .ok (.ireturn, 1) := by decide +kernel
set_option maxRecDepth 20000 in
theorem ggX12_isAtHouse_X12_isClown : GoodIn wsX12_isAtHouse wsX12_isClown := goodIn_r _ [5, 6, 7, 8, 4, 9, 14, 15, 16, 17, 18, 19, 20, 21, 22, 23, 24, 25, 26, 27, 28, 29, 30, 31, 32, 33, 34, 35, 36, 37, 38, 39, 40, 41, 42, 43, 44] rfl (by decide +kernel)
set_option maxRecDepth 20000 in
theorem gX12_isAtHouse_X12_isClown : GoodIn wsX12_isAtHouse (wsV RX12 354 RX12 yX12_isClown wsX12_isClown) := goodIn_app (goodIn_of _ (by decide +kernel)) ggX12_isAtHouse_X12_isClown
set_option maxRecDepth 20000 in
theorem ggX12_isAtHouse_X12_own : GoodIn wsX12_isAtHouse wsX12_own := goodIn_r _ [13, 6, 14, 15, 16, 17, 18, 19, 20, 21, 22, 23, 24, 25, 26, 27, 28, 29, 30, 31, 32, 33, 34, 35, 36, 37, 38, 39, 40, 41, 42, 43, 44] rfl (by decide +kernel)
set_option maxRecDepth 20000 in
theorem gX12_isAtHouse_X12_own : GoodIn wsX12_isAtHouse (wsV RX12 72 RX12 yX12_own wsX12_own) := goodIn_app (goodIn_of _ (by decide +kernel)) ggX12_isAtHouse_X12_own
theorem dX12_isAtHouse_0 : decode cX12_isAtHouse 0 = .ok (.aload_n 0, 1) := by decide +kernel
theorem dX12_isAtHouse_1 : decode cX12_isAtHouse 1 = .ok (.iload_n 1, 1) := by decide +kernel
theorem dX12_isAtHouse_2 : decode cX12_isAtHouse 2 = .ok (.invokevirtual 354, 3) := by decide +kernel
theorem dX12_isAtHouse_5 : decode cX12_isAtHouse 5 = .ok (.ifCond .eq 17, 3) := by decide +kernel
theorem dX12_isAtHouse_8 : decode cX12_isAtHouse 8 = .ok (.aload_n 0, 1) := by decide +kernel
theorem dX12_isAtHouse_9 : decode cX12_isAtHouse 9 = .ok (.iload_n 1, 1) := by decide +kernel
theorem dX12_isAtHouse_10 : decode cX12_isAtHouse 10 = .ok (.iconst 1, 1) := by decide +kernel
theorem dX12_isAtHouse_11 : decode cX12_isAtHouse 11 = .ok (.invokevirtual 72, 3) := by decide +kernel
theorem dX12_isAtHouse_14 : decode cX12_isAtHouse 14 = .ok (.iconst (-1), 1) := by decide +kernel
theorem dX12_isAtHouse_15 : decode cX12_isAtHouse 15 = .ok (.if_icmp .eq 7, 3) := by decide +kernel
theorem dX12_isAtHouse_18 : decode cX12_isAtHouse 18 = .ok (.iconst 1, 1) := by decide +kernel
theorem dX12_isAtHouse_19 : decode cX12_isAtHouse 19 = .ok (.goto 4, 3) := by decide +kernel
theorem dX12_isAtHouse_22 : decode cX12_isAtHouse 22 = .ok (.iconst 0, 1) := by decide +kernel
theorem dX12_isAtHouse_23 : decode cX12_isAtHouse 23 = .ok (.ireturn, 1) := by decide +kernel
set_option maxRecDepth 20000 in
theorem ggX12_canFall_X12_isAtHouse : GoodIn wsX12_canFall wsX12_isAtHouse := goodIn_r _ [5, 6, 7, 8, 4, 9, 10, 11, 12, 13, 14, 15, 16, 17, 18, 19, 20, 21, 22, 23, 24, 25, 26, 27, 28, 29, 30, 31, 32, 33, 34, 35, 36, 37, 38, 39, 40, 41, 42, 43, 44, 45, 46, 47, 48] rfl (by decide +kernel)
set_option maxRecDepth 20000 in
theorem gX12_canFall_X12_isAtHouse : GoodIn wsX12_canFall (wsV RX12 366 RX12 yX12_isAtHouse wsX12_isAtHouse) := goodIn_app (goodIn_of _ (by decide +kernel)) ggX12_canFall_X12_isAtHouse
set_option maxRecDepth 20000 in
theorem ggX12_canFall_X12_own : GoodIn wsX12_canFall wsX12_own := goodIn_r _ [17, 10, 18, 19, 20, 21, 22, 23, 24, 25, 26, 27, 28, 29, 30, 31, 32, 33, 34, 35, 36, 37, 38, 39, 40, 41, 42, 43, 44, 45, 46, 47, 48] rfl (by decide +kernel)
set_option maxRecDepth 20000 in
theorem gX12_canFall_X12_own : GoodIn wsX12_canFall (wsV RX12 72 RX12 yX12_own wsX12_own) := goodIn_app (goodIn_of _ (by decide +kernel)) ggX12_canFall_X12_own
theorem dX12_canFall_0 : decode cX12_canFall 0 = .ok (.aload_n 0, 1) := by decide +kernel
theorem dX12_canFall_1 : decode cX12_canFall 1 = .ok (.iload_n 1, 1) := by decide +kernel
theorem dX12_canFall_2 : decode cX12_canFall 2 = .ok (.invokevirtual 366, 3) := by decide +kernel
theorem dX12_canFall_5 : decode cX12_canFall 5 = .ok (.ifCond .eq 18, 3) := by decide +kernel
theorem dX12_canFall_8 : decode cX12_canFall 8 = .ok (.aload_n 0, 1) := by decide +kernel
theorem dX12_canFall_9 : decode cX12_canFall 9 = .ok (.iload_n 1, 1) := by decide +kernel
theorem dX12_canFall_10 : decode cX12_canFall 10 = .ok (.iconst 0, 1) := by decide +kernel
theorem dX12_canFall_11 : decode cX12_canFall 11 = .ok (.invokevirtual 72, 3) := by decide +kernel
theorem dX12_canFall_14 : decode cX12_canFall 14 = .ok (.bipush 9, 2) := by decide +kernel
theorem dX12_canFall_16 : decode cX12_canFall 16 = .ok (.if_icmp .ge 7, 3) := by decide +kernel
theorem dX12_canFall_19 : decode cX12_canFall 19 = .ok (.iconst 1, 1) := by decide +kernel
theorem dX12_canFall_20 : decode cX12_canFall 20 = .ok (.goto 4, 3) := by decide +kernel
theorem dX12_canFall_23 : decode cX12_canFall 23 = .ok (.iconst 0, 1) := by decide +kernel
theorem dX12_canFall_24 : decode cX12_canFall 24 = .ok (.ireturn, 1) := by decide +kernel
set_option maxRecDepth 20000 in
theorem ggX12_fall_X12_canFall : GoodIn wsX12_fall wsX12_canFall := goodIn_r _ [5, 6, 7, 8, 4, 9, 10, 11, 12, 13, 14, 15, 16, 17, 18, 19, 20, 21, 120, 121, 122, 123, 124, 125, 126, 127, 128, 129, 130, 131, 132, 133, 134, 135, 136, 137, 138, 139, 140, 141, 142, 143, 144, 145, 146, 147, 148, 149, 150] rfl (by decide +kernel)
set_option maxRecDepth 20000 in
theorem gX12_fall_X12_canFall : GoodIn wsX12_fall (wsV RX12 369 RX12 yX12_canFall wsX12_canFall) := goodIn_app (goodIn_of _ (by decide +kernel)) ggX12_fall_X12_canFall
set_option maxRecDepth 20000 in
theorem ggX12_fall_X12_isKind : GoodIn wsX12_fall wsX12_isKind := goodIn_r _ [24, 15, 16, 4, 17] rfl (by decide +kernel)
set_option maxRecDepth 20000 in
theorem gX12_fall_X12_isKind : GoodIn wsX12_fall (va_wsS RX12 93 yX12_isKind wsX12_isKind) := goodIn_app (goodIn_of _ (by decide +kernel)) ggX12_fall_X12_isKind
set_option maxRecDepth 20000 in
theorem ggX12_fall_X12_keep : GoodIn wsX12_fall wsX12_keep := goodIn_r _ [28, 14, 29, 30, 31, 4, 32, 18, 19, 20, 21, 120, 121, 122, 123, 124, 125, 126, 127, 128, 129, 130, 131, 132, 133, 134, 135, 136, 137, 138, 139, 140, 141, 142, 143, 144, 145, 146, 147, 148, 149, 150] rfl (by decide +kernel)
set_option maxRecDepth 20000 in
theorem gX12_fall_X12_keep : GoodIn wsX12_fall (wsV RX12 363 RX12 yX12_keep wsX12_keep) := goodIn_app (goodIn_of _ (by decide +kernel)) ggX12_fall_X12_keep
set_option maxRecDepth 20000 in
theorem ggX12_fall_X12_fallNow : GoodIn wsX12_fall wsX12_fallNow := goodIn_r _ [36, 14, 37, 38, 39, 4, 40, 18, 19, 20, 21, 29, 30, 31, 32, 41, 42, 43, 44, 45, 46, 47, 48, 49, 50, 51, 52, 53, 54, 55, 56, 57, 58, 59, 60, 61, 62, 63, 64, 65, 66, 67, 68, 69, 70, 71, 72, 73, 74, 75, 76, 77, 78, 79, 80, 81, 82, 83, 84, 85, 86, 87, 88, 89, 90, 91, 92, 93, 94, 95, 96, 97, 98, 99, 100, 101, 102, 103, 104, 105, 106, 107, 108, 109, 110, 111, 112, 113, 114, 115, 116, 117, 118, 119, 120, 121, 122, 123, 124, 125, 126, 127, 128, 129, 130, 131, 132, 133, 134, 135, 136, 137, 138, 139, 140, 141, 142, 143, 144, 145, 146, 147, 148, 149, 150] rfl (by decide +kernel)
set_option maxRecDepth 20000 in
theorem gX12_fall_X12_fallNow : GoodIn wsX12_fall (wsV RX12 372 RX12 yX12_fallNow wsX12_fallNow) := goodIn_app (goodIn_of _ (by decide +kernel)) ggX12_fall_X12_fallNow
set_option maxRecDepth 20000 in
theorem ggX12_fall_X12_own : GoodIn wsX12_fall wsX12_own := goodIn_r _ [21, 14, 120, 121, 122, 123, 124, 125, 126, 127, 128, 129, 130, 131, 132, 133, 134, 135, 136, 137, 138, 139, 140, 141, 142, 143, 144, 145, 146, 147, 148, 149, 150] rfl (by decide +kernel)
set_option maxRecDepth 20000 in
theorem gX12_fall_X12_own : GoodIn wsX12_fall (wsV RX12 72 RX12 yX12_own wsX12_own) := goodIn_app (goodIn_of _ (by decide +kernel)) ggX12_fall_X12_own
set_option maxRecDepth 20000 in
theorem ggX12_fall_X12_get : GoodIn wsX12_fall wsX12_get := goodIn_r _ [32, 14, 120, 121, 122, 123, 124, 125, 126, 127, 128, 129, 130, 131, 132, 133, 134, 135, 136, 137, 138, 139, 140, 141, 142, 143, 144, 145, 146, 147, 148, 149, 150] rfl (by decide +kernel)
set_option maxRecDepth 20000 in
theorem gX12_fall_X12_get : GoodIn wsX12_fall (wsV RX12 84 RX12 yX12_get wsX12_get) := goodIn_app (goodIn_of _ (by decide +kernel)) ggX12_fall_X12_get
theorem dX12_fall_0 : decode cX12_fall 0 = .ok (.aload_n 0, 1) := by decide +kernel
theorem dX12_fall_1 : decode cX12_fall 1 = .ok (.iload_n 1, 1) := by decide +kernel
theorem dX12_fall_2 : decode cX12_fall 2 = .ok (.invokevirtual 369, 3) := by decide +kernel
theorem dX12_fall_5 : decode cX12_fall 5 = .ok (.ifCond .eq 10, 3) := by decide +kernel
theorem dX12_fall_8 : decode cX12_fall 8 = .ok (.iload_n 2, 1) := by decide +kernel
theorem dX12_fall_9 : decode cX12_fall 9 = .ok (.invokestatic 93, 3) := by decide +kernel
theorem dX12_fall_12 : decode cX12_fall 12 = .ok (.ifCond .ne 5, 3) := by decide +kernel
theorem dX12_fall_15 : decode cX12_fall 15 = .ok (.iconst (-1), 1) := by decide +kernel
theorem dX12_fall_16 : decode cX12_fall 16 = .ok (.ireturn, 1) := by decide +kernel
theorem dX12_fall_17 : decode cX12_fall 17 = .ok (.aload_n 0, 1) := by decide +kernel
theorem dX12_fall_18 : decode cX12_fall 18 = .ok (.invokevirtual 363, 3) := by decide +kernel
theorem dX12_fall_21 : decode cX12_fall 21 = .ok (.aload_n 0, 1) := by decide +kernel
theorem dX12_fall_22 : decode cX12_fall 22 = .ok (.iload_n 1, 1) := by decide +kernel
theorem dX12_fall_23 : decode cX12_fall 23 = .ok (.iload_n 2, 1) := by decide +kernel
theorem dX12_fall_24 : decode cX12_fall 24 = .ok (.invokevirtual 372, 3) := by decide +kernel
theorem dX12_fall_27 : decode cX12_fall 27 = .ok (.aload_n 0, 1) := by decide +kernel
theorem dX12_fall_28 : decode cX12_fall 28 = .ok (.aload_n 0, 1) := by decide +kernel
theorem dX12_fall_29 : decode cX12_fall 29 = .ok (.iload_n 1, 1) := by decide +kernel
theorem dX12_fall_30 : decode cX12_fall 30 = .ok (.iconst 1, 1) := by decide +kernel
theorem dX12_fall_31 : decode cX12_fall 31 = .ok (.invokevirtual 72, 3) := by decide +kernel
theorem dX12_fall_34 : decode cX12_fall 34 = .ok (.iconst 1, 1) := by decide +kernel
theorem dX12_fall_35 : decode cX12_fall 35 = .ok (.invokevirtual 84, 3) := by decide +kernel
theorem dX12_fall_38 : decode cX12_fall 38 = .ok (.ireturn, 1) := by decide +kernel
set_option maxRecDepth 20000 in
theorem ggX12_rest_X12_isAtHouse : GoodIn wsX12_rest wsX12_isAtHouse := goodIn_r _ [5, 6, 7, 8, 4, 9, 10, 11, 12, 13, 14, 15, 16, 17, 30, 31, 32, 33, 34, 35, 36, 37, 38, 39, 40, 41, 42, 43, 44, 45, 46, 47, 48, 49, 50, 51, 52, 53, 54, 55, 56, 57, 58, 59, 60] rfl (by decide +kernel)
set_option maxRecDepth 20000 in
theorem gX12_rest_X12_isAtHouse : GoodIn wsX12_rest (wsV RX12 366 RX12 yX12_isAtHouse wsX12_isAtHouse) := goodIn_app (goodIn_of _ (by decide +kernel)) ggX12_rest_X12_isAtHouse
set_option maxRecDepth 20000 in
theorem ggX12_rest_X12_keep : GoodIn wsX12_rest wsX12_keep := goodIn_r _ [21, 10, 22, 23, 24, 4, 25, 14, 15, 16, 17, 30, 31, 32, 33, 34, 35, 36, 37, 38, 39, 40, 41, 42, 43, 44, 45, 46, 47, 48, 49, 50, 51, 52, 53, 54, 55, 56, 57, 58, 59, 60] rfl (by decide +kernel)
set_option maxRecDepth 20000 in
theorem gX12_rest_X12_keep : GoodIn wsX12_rest (wsV RX12 363 RX12 yX12_keep wsX12_keep) := goodIn_app (goodIn_of _ (by decide +kernel)) ggX12_rest_X12_keep
set_option maxRecDepth 20000 in
theorem ggX12_rest_X12_lay : GoodIn wsX12_rest wsX12_lay := goodIn_r _ [29, 10, 30, 31, 32, 33, 34, 35, 36, 37, 38, 39, 40, 41, 42, 43, 44, 45, 46, 47, 48, 49, 50, 51, 52, 53, 54, 55, 56, 57, 58, 59, 60] rfl (by decide +kernel)
set_option maxRecDepth 20000 in
theorem gX12_rest_X12_lay : GoodIn wsX12_rest (wsV RX12 87 RX12 yX12_lay wsX12_lay) := goodIn_app (goodIn_of _ (by decide +kernel)) ggX12_rest_X12_lay
theorem dX12_rest_0 : decode cX12_rest 0 = .ok (.aload_n 0, 1) := by decide +kernel
theorem dX12_rest_1 : decode cX12_rest 1 = .ok (.iload_n 1, 1) := by decide +kernel
theorem dX12_rest_2 : decode cX12_rest 2 = .ok (.invokevirtual 366, 3) := by decide +kernel
theorem dX12_rest_5 : decode cX12_rest 5 = .ok (.ifCond .ne 5, 3) := by decide +kernel
theorem dX12_rest_8 : decode cX12_rest 8 = .ok (.iconst 0, 1) := by decide +kernel
theorem dX12_rest_9 : decode cX12_rest 9 = .ok (.ireturn, 1) := by decide +kernel
theorem dX12_rest_10 : decode cX12_rest 10 = .ok (.aload_n 0, 1) := by decide +kernel
theorem dX12_rest_11 : decode cX12_rest 11 = .ok (.invokevirtual 363, 3) := by decide +kernel
theorem dX12_rest_14 : decode cX12_rest 14 = .ok (.aload_n 0, 1) := by decide +kernel
theorem dX12_rest_15 : decode cX12_rest 15 = .ok (.iload_n 1, 1) := by decide +kernel
theorem dX12_rest_16 : decode cX12_rest 16 = .ok (.iconst 1, 1) := by decide +kernel
theorem dX12_rest_17 : decode cX12_rest 17 = .ok (.iconst (-1), 1) := by decide +kernel
theorem dX12_rest_18 : decode cX12_rest 18 = .ok (.invokevirtual 87, 3) := by decide +kernel
theorem dX12_rest_21 : decode cX12_rest 21 = .ok (.iconst 1, 1) := by decide +kernel
theorem dX12_rest_22 : decode cX12_rest 22 = .ok (.ireturn, 1) := by decide +kernel
set_option maxRecDepth 20000 in
theorem ggX12_arePassed_X12_keep : GoodIn wsX12_arePassed wsX12_keep := goodIn_r _ [6, 1, 7, 8, 9, 5, 10, 11, 12, 13, 14, 78, 79, 80, 81, 82, 83, 84, 85, 86, 87, 88, 89, 90, 91, 92, 93, 94, 95, 96, 97, 98, 99, 100, 101, 102, 103, 104, 105, 106, 107, 108] rfl (by decide +kernel)
set_option maxRecDepth 20000 in
theorem gX12_arePassed_X12_keep : GoodIn wsX12_arePassed (wsV RX12 363 RX12 yX12_keep wsX12_keep) := goodIn_app (goodIn_of _ (by decide +kernel)) ggX12_arePassed_X12_keep
set_option maxRecDepth 20000 in
theorem ggX12_arePassed_X12_pass : GoodIn wsX12_arePassed wsX12_pass := goodIn_r _ [18, 1, 7, 8, 9, 5, 10, 19, 20, 21, 22, 23, 24, 25, 26, 27, 28, 29, 30, 31, 11, 12, 13, 14, 32, 33, 34, 35, 36, 37, 38, 39, 40, 41, 42, 43, 44, 45, 46, 47, 48, 49, 50, 51, 52, 53, 54, 55, 56, 57, 58, 59, 60, 61, 62, 63, 64, 65, 66, 67, 68, 69, 70, 71, 72, 73, 74, 75, 76, 77, 78, 79, 80, 81, 82, 83, 84, 85, 86, 87, 88, 89, 90, 91, 92, 93, 94, 95, 96, 97, 98, 99, 100, 101, 102, 103, 104, 105, 106, 107, 108] rfl (by decide +kernel)
set_option maxRecDepth 20000 in
theorem gX12_arePassed_X12_pass : GoodIn wsX12_arePassed (wsV RX12 375 RX12 yX12_pass wsX12_pass) := goodIn_app (goodIn_of _ (by decide +kernel)) ggX12_arePassed_X12_pass
theorem dX12_arePassed_0 : decode cX12_arePassed 0 = .ok (.iconst 0, 1) := by decide +kernel
theorem dX12_arePassed_1 : decode cX12_arePassed 1 = .ok (.istore_n 2, 1) := by decide +kernel
theorem dX12_arePassed_2 : decode cX12_arePassed 2 = .ok (.iload_n 2, 1) := by decide +kernel
theorem dX12_arePassed_3 : decode cX12_arePassed 3 = .ok (.iload_n 1, 1) := by decide +kernel
theorem dX12_arePassed_4 : decode cX12_arePassed 4 = .ok (.if_icmp .ge 32, 3) := by decide +kernel
theorem dX12_arePassed_7 : decode cX12_arePassed 7 = .ok (.aload_n 0, 1) := by decide +kernel
theorem dX12_arePassed_8 : decode cX12_arePassed 8 = .ok (.getfield 7, 3) := by decide +kernel
theorem dX12_arePassed_11 : decode cX12_arePassed 11 = .ok (.bipush 7, 2) := by decide +kernel
theorem dX12_arePassed_13 : decode cX12_arePassed 13 = .ok (.iaload, 1) := by decide +kernel
theorem dX12_arePassed_14 : decode cX12_arePassed 14 = .ok (.sipush 9999, 3) := by decide +kernel
theorem dX12_arePassed_17 : decode cX12_arePassed 17 = .ok (.if_icmp .ne 5, 3) := by decide +kernel
theorem dX12_arePassed_20 : decode cX12_arePassed 20 = .ok (.iconst 0, 1) := by decide +kernel
theorem dX12_arePassed_21 : decode cX12_arePassed 21 = .ok (.ireturn, 1) := by decide +kernel
theorem dX12_arePassed_22 : decode cX12_arePassed 22 = .ok (.aload_n 0, 1) := by decide +kernel
theorem dX12_arePassed_23 : decode cX12_arePassed 23 = .ok (.invokevirtual 363, 3) := by decide +kernel
theorem dX12_arePassed_26 : decode cX12_arePassed 26 = .ok (.aload_n 0, 1) := by decide +kernel
theorem dX12_arePassed_27 : decode cX12_arePassed 27 = .ok (.invokevirtual 375, 3) := by decide +kernel
theorem dX12_arePassed_30 : decode cX12_arePassed 30 = .ok (.iinc 2 1, 3) := by decide +kernel
theorem dX12_arePassed_33 : decode cX12_arePassed 33 = .ok (.goto (-31), 3) := by decide +kernel
theorem dX12_arePassed_36 : decode cX12_arePassed 36 = .ok (.iconst 1, 1) := by decide +kernel
theorem dX12_arePassed_37 : decode cX12_arePassed 37 = .ok (.ireturn, 1) := by decide +kernel
set_option maxRecDepth 20000 in
theorem ggX12_day_X12_isIn : GoodIn wsX12_day wsX12_isIn := goodIn_r _ [5] rfl (by decide +kernel)
set_option maxRecDepth 20000 in
theorem gX12_day_X12_isIn : GoodIn wsX12_day (va_wsS RX12 68 yX12_isIn wsX12_isIn) := goodIn_app (goodIn_of _ (by decide +kernel)) ggX12_day_X12_isIn
set_option maxRecDepth 20000 in
theorem ggX12_day_X12_arePassed : GoodIn wsX12_day wsX12_arePassed := goodIn_r _ [9, 1, 10, 11, 12, 4, 13, 14, 15, 16, 17, 18, 19, 20, 21, 22, 23, 24, 25, 26, 27, 28, 29, 30, 31, 32, 33, 34, 35, 36, 37, 38, 39, 40, 41, 42, 43, 44, 45, 46, 47, 48, 49, 50, 51, 52, 53, 54, 55, 56, 57, 58, 59, 60, 61, 62, 63, 64, 65, 66, 67, 68, 69, 70, 71, 72, 73, 74, 75, 76, 77, 78, 79, 80, 81, 82, 83, 84, 85, 86, 87, 88, 89, 90, 91, 92, 93, 94, 95, 96, 97, 98, 99, 100, 101, 102, 103, 104, 105, 106, 107, 108, 109, 110, 111, 112, 113, 114, 115] rfl (by decide +kernel)
set_option maxRecDepth 20000 in
theorem gX12_day_X12_arePassed : GoodIn wsX12_day (wsV RX12 378 RX12 yX12_arePassed wsX12_arePassed) := goodIn_app (goodIn_of _ (by decide +kernel)) ggX12_day_X12_arePassed
theorem dX12_day_0 : decode cX12_day 0 = .ok (.iload_n 1, 1) := by decide +kernel
theorem dX12_day_1 : decode cX12_day 1 = .ok (.iconst 1, 1) := by decide +kernel
theorem dX12_day_2 : decode cX12_day 2 = .ok (.bipush 60, 2) := by decide +kernel
theorem dX12_day_4 : decode cX12_day 4 = .ok (.invokestatic 68, 3) := by decide +kernel
theorem dX12_day_7 : decode cX12_day 7 = .ok (.ifCond .eq 36, 3) := by decide +kernel
theorem dX12_day_10 : decode cX12_day 10 = .ok (.aload_n 0, 1) := by decide +kernel
theorem dX12_day_11 : decode cX12_day 11 = .ok (.getfield 7, 3) := by decide +kernel
theorem dX12_day_14 : decode cX12_day 14 = .ok (.bipush 7, 2) := by decide +kernel
theorem dX12_day_16 : decode cX12_day 16 = .ok (.iaload, 1) := by decide +kernel
theorem dX12_day_17 : decode cX12_day 17 = .ok (.iload_n 1, 1) := by decide +kernel
theorem dX12_day_18 : decode cX12_day 18 = .ok (.iadd, 1) := by decide +kernel
theorem dX12_day_19 : decode cX12_day 19 = .ok (.sipush 9999, 3) := by decide +kernel
theorem dX12_day_22 : decode cX12_day 22 = .ok (.if_icmp .gt 21, 3) := by decide +kernel
theorem dX12_day_25 : decode cX12_day 25 = .ok (.aload_n 0, 1) := by decide +kernel
theorem dX12_day_26 : decode cX12_day 26 = .ok (.iload_n 1, 1) := by decide +kernel
theorem dX12_day_27 : decode cX12_day 27 = .ok (.invokevirtual 378, 3) := by decide +kernel
theorem dX12_day_30 : decode cX12_day 30 = .ok (.ifCond .eq 13, 3) := by decide +kernel
theorem dX12_day_33 : decode cX12_day 33 = .ok (.aload_n 0, 1) := by decide +kernel
theorem dX12_day_34 : decode cX12_day 34 = .ok (.getfield 7, 3) := by decide +kernel
theorem dX12_day_37 : decode cX12_day 37 = .ok (.bipush 7, 2) := by decide +kernel
theorem dX12_day_39 : decode cX12_day 39 = .ok (.iaload, 1) := by decide +kernel
theorem dX12_day_40 : decode cX12_day 40 = .ok (.goto 4, 3) := by decide +kernel
theorem dX12_day_43 : decode cX12_day 43 = .ok (.iconst (-1), 1) := by decide +kernel
theorem dX12_day_44 : decode cX12_day 44 = .ok (.ireturn, 1) := by decide +kernel
set_option maxRecDepth 20000 in
theorem ggX12_isPlayed_X12_house : GoodIn wsX12_isPlayed wsX12_house := goodIn_r _ [6, 7, 8, 9, 5, 10, 11, 12, 13, 14, 15, 16, 17, 18, 19, 20, 21, 22, 179, 180, 181, 182, 183, 184, 185, 186, 187, 188, 189, 190, 191, 192, 193, 194, 195, 196, 197, 198, 199, 200, 201, 202, 203, 204, 205, 206, 207, 208, 209] rfl (by decide +kernel)
set_option maxRecDepth 20000 in
theorem gX12_isPlayed_X12_house : GoodIn wsX12_isPlayed (wsV RX12 381 RX12 yX12_house wsX12_house) := goodIn_app (goodIn_of _ (by decide +kernel)) ggX12_isPlayed_X12_house
set_option maxRecDepth 20000 in
theorem ggX12_isPlayed_X12_clown : GoodIn wsX12_isPlayed wsX12_clown := goodIn_r _ [26, 7, 8, 9, 5, 10, 27, 28, 29, 30, 31, 32, 33, 34, 179, 180, 181, 182, 183, 184, 185, 186, 187, 188, 189, 190, 191, 192, 193, 194, 195, 196, 197, 198, 199, 200, 201, 202, 203, 204, 205, 206, 207, 208, 209] rfl (by decide +kernel)
set_option maxRecDepth 20000 in
theorem gX12_isPlayed_X12_clown : GoodIn wsX12_isPlayed (wsV RX12 384 RX12 yX12_clown wsX12_clown) := goodIn_app (goodIn_of _ (by decide +kernel)) ggX12_isPlayed_X12_clown
set_option maxRecDepth 20000 in
theorem ggX12_isPlayed_X12_mood : GoodIn wsX12_isPlayed wsX12_mood := goodIn_r _ [38, 7, 39, 40, 5, 41, 8, 9, 10, 179, 180, 181, 182, 183, 184, 185, 186, 187, 188, 189, 190, 191, 192, 193, 194, 195, 196, 197, 198, 199, 200, 201, 202, 203, 204, 205, 206, 207, 208, 209] rfl (by decide +kernel)
set_option maxRecDepth 20000 in
theorem gX12_isPlayed_X12_mood : GoodIn wsX12_isPlayed (wsV RX12 387 RX12 yX12_mood wsX12_mood) := goodIn_app (goodIn_of _ (by decide +kernel)) ggX12_isPlayed_X12_mood
set_option maxRecDepth 20000 in
theorem ggX12_isPlayed_X12_send : GoodIn wsX12_isPlayed wsX12_send := goodIn_r _ [45, 46, 47, 48, 5, 49, 50, 51, 52, 53, 7, 8, 9, 10, 54, 55, 56, 57, 58, 59, 60, 61, 62, 63, 64, 65, 19, 20, 21, 22, 27, 28, 29, 30, 179, 180, 181, 182, 183, 184, 185, 186, 187, 188, 189, 190, 191, 192, 193, 194, 195, 196, 197, 198, 199, 200, 201, 202, 203, 204, 205, 206, 207, 208, 209] rfl (by decide +kernel)
set_option maxRecDepth 20000 in
theorem gX12_isPlayed_X12_send : GoodIn wsX12_isPlayed (wsV RX12 390 RX12 yX12_send wsX12_send) := goodIn_app (goodIn_of _ (by decide +kernel)) ggX12_isPlayed_X12_send
set_option maxRecDepth 20000 in
theorem ggX12_isPlayed_X12_fall : GoodIn wsX12_isPlayed wsX12_fall := goodIn_r _ [69, 70, 71, 72, 5, 73, 74, 75, 76, 77, 50, 51, 52, 53, 7, 8, 9, 10, 58, 59, 60, 61, 39, 40, 41, 62, 63, 64, 65, 19, 20, 21, 22, 78, 79, 80, 81, 82, 83, 84, 85, 86, 87, 88, 89, 90, 91, 92, 93, 94, 95, 96, 97, 98, 99, 100, 101, 102, 1, 103, 104, 105, 106, 107, 108, 109, 110, 111, 112, 113, 114, 115, 116, 117, 118, 119, 120, 121, 122, 123, 124, 125, 126, 127, 128, 129, 130, 131, 132, 11, 12, 13, 14, 133, 134, 135, 136, 137, 138, 139, 140, 141, 142, 143, 144, 145, 146, 147, 148, 149, 150, 151, 152, 153, 154, 155, 27, 28, 29, 30, 179, 180, 181, 182, 183, 184, 185, 186, 187, 188, 189, 190, 191, 192, 193, 194, 195, 196, 197, 198, 199, 200, 201, 202, 203, 204, 205, 206, 207, 208, 209] rfl (by decide +kernel)
set_option maxRecDepth 20000 in
theorem gX12_isPlayed_X12_fall : GoodIn wsX12_isPlayed (wsV RX12 393 RX12 yX12_fall wsX12_fall) := goodIn_app (goodIn_of _ (by decide +kernel)) ggX12_isPlayed_X12_fall
set_option maxRecDepth 20000 in
theorem ggX12_isPlayed_X12_rest : GoodIn wsX12_isPlayed wsX12_rest := goodIn_r _ [159, 74, 75, 76, 5, 77, 50, 51, 52, 53, 7, 8, 9, 10, 58, 59, 60, 61, 62, 63, 64, 65, 19, 20, 21, 22, 27, 28, 29, 30, 179, 180, 181, 182, 183, 184, 185, 186, 187, 188, 189, 190, 191, 192, 193, 194, 195, 196, 197, 198, 199, 200, 201, 202, 203, 204, 205, 206, 207, 208, 209] rfl (by decide +kernel)
set_option maxRecDepth 20000 in
theorem gX12_isPlayed_X12_rest : GoodIn wsX12_isPlayed (wsV RX12 396 RX12 yX12_rest wsX12_rest) := goodIn_app (goodIn_of _ (by decide +kernel)) ggX12_isPlayed_X12_rest
set_option maxRecDepth 20000 in
theorem ggX12_isPlayed_X12_arePassed : GoodIn wsX12_isPlayed wsX12_arePassed := goodIn_r _ [163, 7, 62, 63, 64, 5, 65, 19, 20, 21, 22, 58, 59, 60, 61, 164, 165, 166, 167, 168, 169, 170, 171, 90, 95, 96, 97, 98, 172, 173, 174, 175, 176, 177, 178, 99, 100, 101, 102, 1, 103, 104, 105, 106, 107, 108, 109, 110, 111, 112, 113, 114, 115, 116, 117, 118, 119, 120, 121, 122, 123, 124, 125, 126, 127, 128, 129, 130, 131, 132, 11, 12, 13, 14, 27, 28, 29, 30, 179, 180, 181, 182, 183, 184, 185, 186, 187, 188, 189, 190, 191, 192, 193, 194, 195, 196, 197, 198, 199, 200, 201, 202, 203, 204, 205, 206, 207, 208, 209] rfl (by decide +kernel)
set_option maxRecDepth 20000 in
theorem gX12_isPlayed_X12_arePassed : GoodIn wsX12_isPlayed (wsV RX12 378 RX12 yX12_arePassed wsX12_arePassed) := goodIn_app (goodIn_of _ (by decide +kernel)) ggX12_isPlayed_X12_arePassed
theorem dX12_isPlayed_0 : decode cX12_isPlayed 0 = .ok (.aload_n 0, 1) := by decide +kernel
theorem dX12_isPlayed_1 : decode cX12_isPlayed 1 = .ok (.getfield 16, 3) := by decide +kernel
theorem dX12_isPlayed_4 : decode cX12_isPlayed 4 = .ok (.iload_n 1, 1) := by decide +kernel
theorem dX12_isPlayed_5 : decode cX12_isPlayed 5 = .ok (.iconst 1, 1) := by decide +kernel
theorem dX12_isPlayed_6 : decode cX12_isPlayed 6 = .ok (.iadd, 1) := by decide +kernel
theorem dX12_isPlayed_7 : decode cX12_isPlayed 7 = .ok (.iaload, 1) := by decide +kernel
theorem dX12_isPlayed_8 : decode cX12_isPlayed 8 = .ok (.istore_n 2, 1) := by decide +kernel
theorem dX12_isPlayed_9 : decode cX12_isPlayed 9 = .ok (.aload_n 0, 1) := by decide +kernel
theorem dX12_isPlayed_10 : decode cX12_isPlayed 10 = .ok (.getfield 16, 3) := by decide +kernel
theorem dX12_isPlayed_13 : decode cX12_isPlayed 13 = .ok (.iload_n 1, 1) := by decide +kernel
theorem dX12_isPlayed_14 : decode cX12_isPlayed 14 = .ok (.iconst 2, 1) := by decide +kernel
theorem dX12_isPlayed_15 : decode cX12_isPlayed 15 = .ok (.iadd, 1) := by decide +kernel
theorem dX12_isPlayed_16 : decode cX12_isPlayed 16 = .ok (.iaload, 1) := by decide +kernel
theorem dX12_isPlayed_17 : decode cX12_isPlayed 17 = .ok (.istore_n 3, 1) := by decide +kernel
theorem dX12_isPlayed_18 : decode cX12_isPlayed 18 = .ok (.aload_n 0, 1) := by decide +kernel
theorem dX12_isPlayed_19 : decode cX12_isPlayed 19 = .ok (.getfield 16, 3) := by decide +kernel
theorem dX12_isPlayed_22 : decode cX12_isPlayed 22 = .ok (.iload_n 1, 1) := by decide +kernel
theorem dX12_isPlayed_23 : decode cX12_isPlayed 23 = .ok (.iaload, 1) := by decide +kernel
theorem dX12_isPlayed_24 : decode cX12_isPlayed 24 = .ok (.tableswitch 123 3 9 #[44, 59, 74, 89, 96, 111, 117], 44) := by decide +kernel
theorem dX12_isPlayed_68 : decode cX12_isPlayed 68 = .ok (.aload_n 0, 1) := by decide +kernel
theorem dX12_isPlayed_69 : decode cX12_isPlayed 69 = .ok (.iload_n 2, 1) := by decide +kernel
theorem dX12_isPlayed_70 : decode cX12_isPlayed 70 = .ok (.iload_n 3, 1) := by decide +kernel
theorem dX12_isPlayed_71 : decode cX12_isPlayed 71 = .ok (.invokevirtual 381, 3) := by decide +kernel
theorem dX12_isPlayed_74 : decode cX12_isPlayed 74 = .ok (.ifCond .lt 7, 3) := by decide +kernel
theorem dX12_isPlayed_77 : decode cX12_isPlayed 77 = .ok (.iconst 1, 1) := by decide +kernel
theorem dX12_isPlayed_78 : decode cX12_isPlayed 78 = .ok (.goto 4, 3) := by decide +kernel
theorem dX12_isPlayed_81 : decode cX12_isPlayed 81 = .ok (.iconst 0, 1) := by decide +kernel
theorem dX12_isPlayed_82 : decode cX12_isPlayed 82 = .ok (.ireturn, 1) := by decide +kernel
theorem dX12_isPlayed_83 : decode cX12_isPlayed 83 = .ok (.aload_n 0, 1) := by decide +kernel
theorem dX12_isPlayed_84 : decode cX12_isPlayed 84 = .ok (.iload_n 2, 1) := by decide +kernel
theorem dX12_isPlayed_85 : decode cX12_isPlayed 85 = .ok (.iload_n 3, 1) := by decide +kernel
theorem dX12_isPlayed_86 : decode cX12_isPlayed 86 = .ok (.invokevirtual 384, 3) := by decide +kernel
theorem dX12_isPlayed_89 : decode cX12_isPlayed 89 = .ok (.ifCond .lt 7, 3) := by decide +kernel
theorem dX12_isPlayed_92 : decode cX12_isPlayed 92 = .ok (.iconst 1, 1) := by decide +kernel
theorem dX12_isPlayed_93 : decode cX12_isPlayed 93 = .ok (.goto 4, 3) := by decide +kernel
theorem dX12_isPlayed_96 : decode cX12_isPlayed 96 = .ok (.iconst 0, 1) := by decide +kernel
theorem dX12_isPlayed_97 : decode cX12_isPlayed 97 = .ok (.ireturn, 1) := by decide +kernel
theorem dX12_isPlayed_98 : decode cX12_isPlayed 98 = .ok (.aload_n 0, 1) := by decide +kernel
theorem dX12_isPlayed_99 : decode cX12_isPlayed 99 = .ok (.iload_n 3, 1) := by decide +kernel
theorem dX12_isPlayed_100 : decode cX12_isPlayed 100 = .ok (.iload_n 2, 1) := by decide +kernel
theorem dX12_isPlayed_101 : decode cX12_isPlayed 101 = .ok (.aload_n 0, 1) := by decide +kernel
theorem dX12_isPlayed_102 : decode cX12_isPlayed 102 = .ok (.getfield 16, 3) := by decide +kernel
theorem dX12_isPlayed_105 : decode cX12_isPlayed 105 = .ok (.iload_n 1, 1) := by decide +kernel
theorem dX12_isPlayed_106 : decode cX12_isPlayed 106 = .ok (.iconst 3, 1) := by decide +kernel
theorem dX12_isPlayed_107 : decode cX12_isPlayed 107 = .ok (.iadd, 1) := by decide +kernel
theorem dX12_isPlayed_108 : decode cX12_isPlayed 108 = .ok (.iaload, 1) := by decide +kernel
theorem dX12_isPlayed_109 : decode cX12_isPlayed 109 = .ok (.invokevirtual 387, 3) := by decide +kernel
theorem dX12_isPlayed_112 : decode cX12_isPlayed 112 = .ok (.ireturn, 1) := by decide +kernel
theorem dX12_isPlayed_113 : decode cX12_isPlayed 113 = .ok (.aload_n 0, 1) := by decide +kernel
theorem dX12_isPlayed_114 : decode cX12_isPlayed 114 = .ok (.iload_n 2, 1) := by decide +kernel
theorem dX12_isPlayed_115 : decode cX12_isPlayed 115 = .ok (.iload_n 3, 1) := by decide +kernel
theorem dX12_isPlayed_116 : decode cX12_isPlayed 116 = .ok (.invokevirtual 390, 3) := by decide +kernel
theorem dX12_isPlayed_119 : decode cX12_isPlayed 119 = .ok (.ireturn, 1) := by decide +kernel
theorem dX12_isPlayed_120 : decode cX12_isPlayed 120 = .ok (.aload_n 0, 1) := by decide +kernel
theorem dX12_isPlayed_121 : decode cX12_isPlayed 121 = .ok (.iload_n 3, 1) := by decide +kernel
theorem dX12_isPlayed_122 : decode cX12_isPlayed 122 = .ok (.iload_n 2, 1) := by decide +kernel
theorem dX12_isPlayed_123 : decode cX12_isPlayed 123 = .ok (.invokevirtual 393, 3) := by decide +kernel
theorem dX12_isPlayed_126 : decode cX12_isPlayed 126 = .ok (.ifCond .lt 7, 3) := by decide +kernel
theorem dX12_isPlayed_129 : decode cX12_isPlayed 129 = .ok (.iconst 1, 1) := by decide +kernel
theorem dX12_isPlayed_130 : decode cX12_isPlayed 130 = .ok (.goto 4, 3) := by decide +kernel
theorem dX12_isPlayed_133 : decode cX12_isPlayed 133 = .ok (.iconst 0, 1) := by decide +kernel
theorem dX12_isPlayed_134 : decode cX12_isPlayed 134 = .ok (.ireturn, 1) := by decide +kernel
theorem dX12_isPlayed_135 : decode cX12_isPlayed 135 = .ok (.aload_n 0, 1) := by decide +kernel
theorem dX12_isPlayed_136 : decode cX12_isPlayed 136 = .ok (.iload_n 2, 1) := by decide +kernel
theorem dX12_isPlayed_137 : decode cX12_isPlayed 137 = .ok (.invokevirtual 396, 3) := by decide +kernel
theorem dX12_isPlayed_140 : decode cX12_isPlayed 140 = .ok (.ireturn, 1) := by decide +kernel
theorem dX12_isPlayed_141 : decode cX12_isPlayed 141 = .ok (.aload_n 0, 1) := by decide +kernel
theorem dX12_isPlayed_142 : decode cX12_isPlayed 142 = .ok (.iload_n 2, 1) := by decide +kernel
theorem dX12_isPlayed_143 : decode cX12_isPlayed 143 = .ok (.invokevirtual 378, 3) := by decide +kernel
theorem dX12_isPlayed_146 : decode cX12_isPlayed 146 = .ok (.ireturn, 1) := by decide +kernel
theorem dX12_isPlayed_147 : decode cX12_isPlayed 147 = .ok (.iconst 1, 1) := by decide +kernel
theorem dX12_isPlayed_148 : decode cX12_isPlayed 148 = .ok (.ireturn, 1) := by decide +kernel
set_option maxRecDepth 20000 in
theorem ggX12_played_X12_isIn : GoodIn wsX12_played wsX12_isIn := goodIn_r _ [6] rfl (by decide +kernel)
set_option maxRecDepth 20000 in
theorem gX12_played_X12_isIn : GoodIn wsX12_played (va_wsS RX12 68 yX12_isIn wsX12_isIn) := goodIn_app (goodIn_of _ (by decide +kernel)) ggX12_played_X12_isIn
set_option maxRecDepth 20000 in
theorem ggX12_played_X12_isPlayed : GoodIn wsX12_played wsX12_isPlayed := goodIn_r _ [10, 2, 11, 12, 13, 5, 14, 1, 3, 4, 6, 15, 16, 17, 18, 19, 20, 21, 22, 23, 24, 25, 26, 27, 28, 29, 30, 31, 32, 33, 34, 35, 36, 37, 38, 39, 40, 41, 42, 43, 44, 45, 46, 47, 48, 49, 50, 51, 52, 53, 54, 55, 56, 57, 58, 59, 60, 61, 62, 63, 64, 65, 66, 67, 68, 69, 70, 71, 72, 73, 74, 75, 76, 77, 78, 79, 80, 81, 82, 83, 84, 85, 86, 87, 88, 89, 90, 91, 92, 93, 94, 95, 96, 97, 98, 99, 100, 101, 102, 103, 104, 105, 106, 107, 108, 109, 110, 111, 112, 113, 114, 115, 116, 117, 118, 119, 120, 121, 122, 123, 124, 125, 126, 127, 128, 129, 130, 131, 132, 133, 134, 135, 136, 137, 138, 139, 140, 141, 142, 143, 144, 145, 146, 147, 148, 149, 150, 151, 152, 153, 154, 155, 156, 157, 158, 159, 160, 161, 162, 163, 164, 165, 166, 167, 168, 169, 170, 171, 172, 173, 174, 175, 176, 177, 178, 179, 180, 181, 182, 183, 184, 185, 186, 187, 188, 189, 190, 191, 192, 193, 194, 195, 196, 197, 198, 199, 200, 201, 202, 203, 204, 205, 206, 207, 208, 209, 210, 211, 212, 213] rfl (by decide +kernel)
set_option maxRecDepth 20000 in
theorem gX12_played_X12_isPlayed : GoodIn wsX12_played (wsV RX12 399 RX12 yX12_isPlayed wsX12_isPlayed) := goodIn_app (goodIn_of _ (by decide +kernel)) ggX12_played_X12_isPlayed
theorem dX12_played_0 : decode cX12_played 0 = .ok (.iload_n 1, 1) := by decide +kernel
theorem dX12_played_1 : decode cX12_played 1 = .ok (.iconst 0, 1) := by decide +kernel
theorem dX12_played_2 : decode cX12_played 2 = .ok (.aload_n 0, 1) := by decide +kernel
theorem dX12_played_3 : decode cX12_played 3 = .ok (.getfield 7, 3) := by decide +kernel
theorem dX12_played_6 : decode cX12_played 6 = .ok (.iconst 2, 1) := by decide +kernel
theorem dX12_played_7 : decode cX12_played 7 = .ok (.iaload, 1) := by decide +kernel
theorem dX12_played_8 : decode cX12_played 8 = .ok (.iconst 1, 1) := by decide +kernel
theorem dX12_played_9 : decode cX12_played 9 = .ok (.isub, 1) := by decide +kernel
theorem dX12_played_10 : decode cX12_played 10 = .ok (.invokestatic 68, 3) := by decide +kernel
theorem dX12_played_13 : decode cX12_played 13 = .ok (.ifCond .ne 6, 3) := by decide +kernel
theorem dX12_played_16 : decode cX12_played 16 = .ok (.bipush (-2), 2) := by decide +kernel
theorem dX12_played_18 : decode cX12_played 18 = .ok (.ireturn, 1) := by decide +kernel
theorem dX12_played_19 : decode cX12_played 19 = .ok (.iconst 0, 1) := by decide +kernel
theorem dX12_played_20 : decode cX12_played 20 = .ok (.istore_n 2, 1) := by decide +kernel
theorem dX12_played_21 : decode cX12_played 21 = .ok (.iload_n 2, 1) := by decide +kernel
theorem dX12_played_22 : decode cX12_played 22 = .ok (.aload_n 0, 1) := by decide +kernel
theorem dX12_played_23 : decode cX12_played 23 = .ok (.getfield 16, 3) := by decide +kernel
theorem dX12_played_26 : decode cX12_played 26 = .ok (.sipush 705, 3) := by decide +kernel
theorem dX12_played_29 : decode cX12_played 29 = .ok (.iload_n 1, 1) := by decide +kernel
theorem dX12_played_30 : decode cX12_played 30 = .ok (.imul, 1) := by decide +kernel
theorem dX12_played_31 : decode cX12_played 31 = .ok (.iaload, 1) := by decide +kernel
theorem dX12_played_32 : decode cX12_played 32 = .ok (.if_icmp .ge 29, 3) := by decide +kernel
theorem dX12_played_35 : decode cX12_played 35 = .ok (.aload_n 0, 1) := by decide +kernel
theorem dX12_played_36 : decode cX12_played 36 = .ok (.sipush 705, 3) := by decide +kernel
theorem dX12_played_39 : decode cX12_played 39 = .ok (.iload_n 1, 1) := by decide +kernel
theorem dX12_played_40 : decode cX12_played 40 = .ok (.imul, 1) := by decide +kernel
theorem dX12_played_41 : decode cX12_played 41 = .ok (.iconst 1, 1) := by decide +kernel
theorem dX12_played_42 : decode cX12_played 42 = .ok (.iadd, 1) := by decide +kernel
theorem dX12_played_43 : decode cX12_played 43 = .ok (.iconst 4, 1) := by decide +kernel
theorem dX12_played_44 : decode cX12_played 44 = .ok (.iload_n 2, 1) := by decide +kernel
theorem dX12_played_45 : decode cX12_played 45 = .ok (.imul, 1) := by decide +kernel
theorem dX12_played_46 : decode cX12_played 46 = .ok (.iadd, 1) := by decide +kernel
theorem dX12_played_47 : decode cX12_played 47 = .ok (.invokevirtual 399, 3) := by decide +kernel
theorem dX12_played_50 : decode cX12_played 50 = .ok (.ifCond .ne 5, 3) := by decide +kernel
theorem dX12_played_53 : decode cX12_played 53 = .ok (.iload_n 2, 1) := by decide +kernel
theorem dX12_played_54 : decode cX12_played 54 = .ok (.ireturn, 1) := by decide +kernel
theorem dX12_played_55 : decode cX12_played 55 = .ok (.iinc 2 1, 3) := by decide +kernel
theorem dX12_played_58 : decode cX12_played 58 = .ok (.goto (-37), 3) := by decide +kernel
theorem dX12_played_61 : decode cX12_played 61 = .ok (.iconst (-1), 1) := by decide +kernel
theorem dX12_played_62 : decode cX12_played 62 = .ok (.ireturn, 1) := by decide +kernel
set_option maxRecDepth 20000 in
theorem ggX12_happens_X12_pass : GoodIn wsX12_happens wsX12_pass := goodIn_r _ [6, 1, 7, 8, 9, 5, 10, 11, 12, 13, 14, 15, 16, 17, 18, 19, 20, 21, 22, 23, 24, 25, 26, 27, 28, 29, 30, 31, 32, 33, 34, 35, 36, 37, 38, 39, 40, 41, 42, 43, 44, 45, 46, 47, 48, 49, 50, 51, 52, 53, 54, 55, 56, 57, 58, 59, 60, 61, 62, 63, 64, 65, 66, 67, 68, 69, 70, 71, 72, 73, 128, 129, 130, 131, 132, 133, 134, 135, 136, 137, 138, 139, 140, 141, 142, 143, 144, 145, 146, 147, 148, 149, 150, 151, 152, 153, 154, 155, 156, 157, 158] rfl (by decide +kernel)
set_option maxRecDepth 20000 in
theorem gX12_happens_X12_pass : GoodIn wsX12_happens (wsV RX12 375 RX12 yX12_pass wsX12_pass) := goodIn_app (goodIn_of _ (by decide +kernel)) ggX12_happens_X12_pass
set_option maxRecDepth 20000 in
theorem ggX12_happens_X12_lay : GoodIn wsX12_happens wsX12_lay := goodIn_r _ [73, 1, 128, 129, 130, 131, 132, 133, 134, 135, 136, 137, 138, 139, 140, 141, 142, 143, 144, 145, 146, 147, 148, 149, 150, 151, 152, 153, 154, 155, 156, 157, 158] rfl (by decide +kernel)
set_option maxRecDepth 20000 in
theorem gX12_happens_X12_lay : GoodIn wsX12_happens (wsV RX12 87 RX12 yX12_lay wsX12_lay) := goodIn_app (goodIn_of _ (by decide +kernel)) ggX12_happens_X12_lay
set_option maxRecDepth 20000 in
theorem ggX12_happens_X12_canFall : GoodIn wsX12_happens wsX12_canFall := goodIn_r _ [77, 78, 79, 80, 5, 81, 82, 83, 84, 85, 1, 86, 87, 88, 24, 25, 26, 27, 128, 129, 130, 131, 132, 133, 134, 135, 136, 137, 138, 139, 140, 141, 142, 143, 144, 145, 146, 147, 148, 149, 150, 151, 152, 153, 154, 155, 156, 157, 158] rfl (by decide +kernel)
set_option maxRecDepth 20000 in
theorem gX12_happens_X12_canFall : GoodIn wsX12_happens (wsV RX12 369 RX12 yX12_canFall wsX12_canFall) := goodIn_app (goodIn_of _ (by decide +kernel)) ggX12_happens_X12_canFall
set_option maxRecDepth 20000 in
theorem ggX12_happens_X12_fallNow : GoodIn wsX12_happens wsX12_fallNow := goodIn_r _ [92, 1, 93, 94, 95, 5, 96, 24, 25, 26, 27, 7, 8, 9, 10, 97, 98, 99, 100, 15, 101, 102, 103, 104, 16, 17, 18, 19, 31, 32, 33, 34, 35, 36, 37, 38, 39, 40, 41, 42, 43, 44, 45, 46, 47, 48, 49, 50, 51, 52, 53, 54, 55, 56, 57, 58, 59, 60, 61, 62, 63, 64, 65, 66, 67, 68, 69, 105, 106, 107, 108, 109, 110, 111, 112, 113, 114, 115, 116, 117, 118, 119, 120, 121, 122, 123, 124, 125, 126, 127, 70, 71, 72, 73, 128, 129, 130, 131, 132, 133, 134, 135, 136, 137, 138, 139, 140, 141, 142, 143, 144, 145, 146, 147, 148, 149, 150, 151, 152, 153, 154, 155, 156, 157, 158] rfl (by decide +kernel)
set_option maxRecDepth 20000 in
theorem gX12_happens_X12_fallNow : GoodIn wsX12_happens (wsV RX12 372 RX12 yX12_fallNow wsX12_fallNow) := goodIn_app (goodIn_of _ (by decide +kernel)) ggX12_happens_X12_fallNow
theorem dX12_happens_0 : decode cX12_happens 0 = .ok (.iload_n 1, 1) := by decide +kernel
theorem dX12_happens_1 : decode cX12_happens 1 = .ok (.bipush 6, 2) := by decide +kernel
theorem dX12_happens_3 : decode cX12_happens 3 = .ok (.irem, 1) := by decide +kernel
theorem dX12_happens_4 : decode cX12_happens 4 = .ok (.iconst 5, 1) := by decide +kernel
theorem dX12_happens_5 : decode cX12_happens 5 = .ok (.if_icmp .ne 21, 3) := by decide +kernel
theorem dX12_happens_8 : decode cX12_happens 8 = .ok (.aload_n 0, 1) := by decide +kernel
theorem dX12_happens_9 : decode cX12_happens 9 = .ok (.getfield 7, 3) := by decide +kernel
theorem dX12_happens_12 : decode cX12_happens 12 = .ok (.bipush 7, 2) := by decide +kernel
theorem dX12_happens_14 : decode cX12_happens 14 = .ok (.iaload, 1) := by decide +kernel
theorem dX12_happens_15 : decode cX12_happens 15 = .ok (.sipush 9999, 3) := by decide +kernel
theorem dX12_happens_18 : decode cX12_happens 18 = .ok (.if_icmp .ge 7, 3) := by decide +kernel
theorem dX12_happens_21 : decode cX12_happens 21 = .ok (.aload_n 0, 1) := by decide +kernel
theorem dX12_happens_22 : decode cX12_happens 22 = .ok (.invokevirtual 375, 3) := by decide +kernel
theorem dX12_happens_25 : decode cX12_happens 25 = .ok (.return_, 1) := by decide +kernel
theorem dX12_happens_26 : decode cX12_happens 26 = .ok (.aload_n 0, 1) := by decide +kernel
theorem dX12_happens_27 : decode cX12_happens 27 = .ok (.getfield 7, 3) := by decide +kernel
theorem dX12_happens_30 : decode cX12_happens 30 = .ok (.iconst 1, 1) := by decide +kernel
theorem dX12_happens_31 : decode cX12_happens 31 = .ok (.iaload, 1) := by decide +kernel
theorem dX12_happens_32 : decode cX12_happens 32 = .ok (.ifCond .ne 4, 3) := by decide +kernel
theorem dX12_happens_35 : decode cX12_happens 35 = .ok (.return_, 1) := by decide +kernel
theorem dX12_happens_36 : decode cX12_happens 36 = .ok (.iload_n 1, 1) := by decide +kernel
theorem dX12_happens_37 : decode cX12_happens 37 = .ok (.aload_n 0, 1) := by decide +kernel
theorem dX12_happens_38 : decode cX12_happens 38 = .ok (.getfield 7, 3) := by decide +kernel
theorem dX12_happens_41 : decode cX12_happens 41 = .ok (.iconst 1, 1) := by decide +kernel
theorem dX12_happens_42 : decode cX12_happens 42 = .ok (.iaload, 1) := by decide +kernel
theorem dX12_happens_43 : decode cX12_happens 43 = .ok (.irem, 1) := by decide +kernel
theorem dX12_happens_44 : decode cX12_happens 44 = .ok (.istore_n 2, 1) := by decide +kernel
theorem dX12_happens_45 : decode cX12_happens 45 = .ok (.iload_n 1, 1) := by decide +kernel
theorem dX12_happens_46 : decode cX12_happens 46 = .ok (.bipush 6, 2) := by decide +kernel
theorem dX12_happens_48 : decode cX12_happens 48 = .ok (.irem, 1) := by decide +kernel
theorem dX12_happens_49 : decode cX12_happens 49 = .ok (.ifCond .ne 32, 3) := by decide +kernel
theorem dX12_happens_52 : decode cX12_happens 52 = .ok (.aload_n 0, 1) := by decide +kernel
theorem dX12_happens_53 : decode cX12_happens 53 = .ok (.getfield 7, 3) := by decide +kernel
theorem dX12_happens_56 : decode cX12_happens 56 = .ok (.iconst 0, 1) := by decide +kernel
theorem dX12_happens_57 : decode cX12_happens 57 = .ok (.iaload, 1) := by decide +kernel
theorem dX12_happens_58 : decode cX12_happens 58 = .ok (.ifCond .le 64, 3) := by decide +kernel
theorem dX12_happens_61 : decode cX12_happens 61 = .ok (.aload_n 0, 1) := by decide +kernel
theorem dX12_happens_62 : decode cX12_happens 62 = .ok (.iload_n 2, 1) := by decide +kernel
theorem dX12_happens_63 : decode cX12_happens 63 = .ok (.iconst 1, 1) := by decide +kernel
theorem dX12_happens_64 : decode cX12_happens 64 = .ok (.iload_n 1, 1) := by decide +kernel
theorem dX12_happens_65 : decode cX12_happens 65 = .ok (.bipush 6, 2) := by decide +kernel
theorem dX12_happens_67 : decode cX12_happens 67 = .ok (.idiv, 1) := by decide +kernel
theorem dX12_happens_68 : decode cX12_happens 68 = .ok (.aload_n 0, 1) := by decide +kernel
theorem dX12_happens_69 : decode cX12_happens 69 = .ok (.getfield 7, 3) := by decide +kernel
theorem dX12_happens_72 : decode cX12_happens 72 = .ok (.iconst 0, 1) := by decide +kernel
theorem dX12_happens_73 : decode cX12_happens 73 = .ok (.iaload, 1) := by decide +kernel
theorem dX12_happens_74 : decode cX12_happens 74 = .ok (.irem, 1) := by decide +kernel
theorem dX12_happens_75 : decode cX12_happens 75 = .ok (.invokevirtual 87, 3) := by decide +kernel
theorem dX12_happens_78 : decode cX12_happens 78 = .ok (.goto 44, 3) := by decide +kernel
theorem dX12_happens_81 : decode cX12_happens 81 = .ok (.iload_n 1, 1) := by decide +kernel
theorem dX12_happens_82 : decode cX12_happens 82 = .ok (.bipush 6, 2) := by decide +kernel
theorem dX12_happens_84 : decode cX12_happens 84 = .ok (.irem, 1) := by decide +kernel
theorem dX12_happens_85 : decode cX12_happens 85 = .ok (.iconst 4, 1) := by decide +kernel
theorem dX12_happens_86 : decode cX12_happens 86 = .ok (.if_icmp .ne 20, 3) := by decide +kernel
theorem dX12_happens_89 : decode cX12_happens 89 = .ok (.iload_n 1, 1) := by decide +kernel
theorem dX12_happens_90 : decode cX12_happens 90 = .ok (.bipush 8, 2) := by decide +kernel
theorem dX12_happens_92 : decode cX12_happens 92 = .ok (.irem, 1) := by decide +kernel
theorem dX12_happens_93 : decode cX12_happens 93 = .ok (.ifCond .ne 29, 3) := by decide +kernel
theorem dX12_happens_96 : decode cX12_happens 96 = .ok (.aload_n 0, 1) := by decide +kernel
theorem dX12_happens_97 : decode cX12_happens 97 = .ok (.iload_n 2, 1) := by decide +kernel
theorem dX12_happens_98 : decode cX12_happens 98 = .ok (.iconst 1, 1) := by decide +kernel
theorem dX12_happens_99 : decode cX12_happens 99 = .ok (.iconst (-1), 1) := by decide +kernel
theorem dX12_happens_100 : decode cX12_happens 100 = .ok (.invokevirtual 87, 3) := by decide +kernel
theorem dX12_happens_103 : decode cX12_happens 103 = .ok (.goto 19, 3) := by decide +kernel
theorem dX12_happens_106 : decode cX12_happens 106 = .ok (.aload_n 0, 1) := by decide +kernel
theorem dX12_happens_107 : decode cX12_happens 107 = .ok (.iload_n 2, 1) := by decide +kernel
theorem dX12_happens_108 : decode cX12_happens 108 = .ok (.invokevirtual 369, 3) := by decide +kernel
theorem dX12_happens_111 : decode cX12_happens 111 = .ok (.ifCond .eq 11, 3) := by decide +kernel
theorem dX12_happens_114 : decode cX12_happens 114 = .ok (.aload_n 0, 1) := by decide +kernel
theorem dX12_happens_115 : decode cX12_happens 115 = .ok (.iload_n 2, 1) := by decide +kernel
theorem dX12_happens_116 : decode cX12_happens 116 = .ok (.iload_n 1, 1) := by decide +kernel
theorem dX12_happens_117 : decode cX12_happens 117 = .ok (.iconst 5, 1) := by decide +kernel
theorem dX12_happens_118 : decode cX12_happens 118 = .ok (.irem, 1) := by decide +kernel
theorem dX12_happens_119 : decode cX12_happens 119 = .ok (.invokevirtual 372, 3) := by decide +kernel
theorem dX12_happens_122 : decode cX12_happens 122 = .ok (.return_, 1) := by decide +kernel
set_option maxRecDepth 20000 in
theorem ggX12_decades_X12_isIn : GoodIn wsX12_decades wsX12_isIn := goodIn_r _ [5] rfl (by decide +kernel)
set_option maxRecDepth 20000 in
theorem gX12_decades_X12_isIn : GoodIn wsX12_decades (va_wsS RX12 68 yX12_isIn wsX12_isIn) := goodIn_app (goodIn_of _ (by decide +kernel)) ggX12_decades_X12_isIn
set_option maxRecDepth 20000 in
theorem ggX12_decades_X12_keep : GoodIn wsX12_decades wsX12_keep := goodIn_r _ [9, 1, 10, 11, 12, 4, 13, 14, 15, 16, 17, 136, 137, 138, 139, 140, 141, 142, 143, 144, 145, 146, 147, 148, 149, 150, 151, 152, 153, 154, 155, 156, 157, 158, 159, 160, 161, 162, 163, 164, 165, 166] rfl (by decide +kernel)
set_option maxRecDepth 20000 in
theorem gX12_decades_X12_keep : GoodIn wsX12_decades (wsV RX12 363 RX12 yX12_keep wsX12_keep) := goodIn_app (goodIn_of _ (by decide +kernel)) ggX12_decades_X12_keep
set_option maxRecDepth 20000 in
theorem ggX12_decades_X12_anew : GoodIn wsX12_decades wsX12_anew := goodIn_r _ [21, 1, 22, 23, 24, 136, 137, 138, 139, 140, 141, 142, 143, 144, 145, 146, 147, 148, 149, 150, 151, 152, 153, 154, 155, 156, 157, 158, 159, 160, 161, 162, 163, 164, 165, 166] rfl (by decide +kernel)
set_option maxRecDepth 20000 in
theorem gX12_decades_X12_anew : GoodIn wsX12_decades (wsV RX12 345 RX12 yX12_anew wsX12_anew) := goodIn_app (goodIn_of _ (by decide +kernel)) ggX12_decades_X12_anew
set_option maxRecDepth 20000 in
theorem ggX12_decades_X12_happens : GoodIn wsX12_decades wsX12_happens := goodIn_r _ [28, 1, 29, 30, 31, 4, 32, 10, 11, 12, 13, 33, 34, 35, 36, 37, 38, 39, 40, 41, 42, 43, 44, 45, 14, 15, 16, 17, 46, 47, 48, 49, 50, 51, 52, 53, 54, 55, 56, 57, 58, 59, 60, 61, 62, 63, 64, 65, 66, 67, 68, 69, 70, 71, 72, 73, 74, 75, 76, 77, 78, 79, 80, 81, 82, 83, 84, 85, 86, 87, 88, 89, 90, 91, 92, 93, 94, 95, 96, 97, 98, 99, 100, 101, 102, 103, 2, 3, 5, 104, 105, 106, 107, 108, 109, 110, 111, 112, 113, 114, 115, 116, 117, 118, 119, 120, 121, 122, 123, 124, 125, 126, 127, 18, 19, 20, 21, 22, 23, 24, 128, 129, 130, 131, 132, 133, 134, 135, 136, 137, 138, 139, 140, 141, 142, 143, 144, 145, 146, 147, 148, 149, 150, 151, 152, 153, 154, 155, 156, 157, 158, 159, 160, 161, 162, 163, 164, 165, 166] rfl (by decide +kernel)
set_option maxRecDepth 20000 in
theorem gX12_decades_X12_happens : GoodIn wsX12_decades (wsV RX12 402 RX12 yX12_happens wsX12_happens) := goodIn_app (goodIn_of _ (by decide +kernel)) ggX12_decades_X12_happens
theorem dX12_decades_0 : decode cX12_decades 0 = .ok (.iload_n 1, 1) := by decide +kernel
theorem dX12_decades_1 : decode cX12_decades 1 = .ok (.iconst 0, 1) := by decide +kernel
theorem dX12_decades_2 : decode cX12_decades 2 = .ok (.sipush 9999, 3) := by decide +kernel
theorem dX12_decades_5 : decode cX12_decades 5 = .ok (.invokestatic 68, 3) := by decide +kernel
theorem dX12_decades_8 : decode cX12_decades 8 = .ok (.ifCond .eq 13, 3) := by decide +kernel
theorem dX12_decades_11 : decode cX12_decades 11 = .ok (.iload_n 2, 1) := by decide +kernel
theorem dX12_decades_12 : decode cX12_decades 12 = .ok (.iconst 1, 1) := by decide +kernel
theorem dX12_decades_13 : decode cX12_decades 13 = .ok (.bipush 40, 2) := by decide +kernel
theorem dX12_decades_15 : decode cX12_decades 15 = .ok (.invokestatic 68, 3) := by decide +kernel
theorem dX12_decades_18 : decode cX12_decades 18 = .ok (.ifCond .ne 5, 3) := by decide +kernel
theorem dX12_decades_21 : decode cX12_decades 21 = .ok (.iconst (-1), 1) := by decide +kernel
theorem dX12_decades_22 : decode cX12_decades 22 = .ok (.ireturn, 1) := by decide +kernel
theorem dX12_decades_23 : decode cX12_decades 23 = .ok (.aload_n 0, 1) := by decide +kernel
theorem dX12_decades_24 : decode cX12_decades 24 = .ok (.invokevirtual 363, 3) := by decide +kernel
theorem dX12_decades_27 : decode cX12_decades 27 = .ok (.aload_n 0, 1) := by decide +kernel
theorem dX12_decades_28 : decode cX12_decades 28 = .ok (.getfield 7, 3) := by decide +kernel
theorem dX12_decades_31 : decode cX12_decades 31 = .ok (.bipush 8, 2) := by decide +kernel
theorem dX12_decades_33 : decode cX12_decades 33 = .ok (.iload_n 1, 1) := by decide +kernel
theorem dX12_decades_34 : decode cX12_decades 34 = .ok (.iconst 2, 1) := by decide +kernel
theorem dX12_decades_35 : decode cX12_decades 35 = .ok (.imul, 1) := by decide +kernel
theorem dX12_decades_36 : decode cX12_decades 36 = .ok (.sipush 179, 3) := by decide +kernel
theorem dX12_decades_39 : decode cX12_decades 39 = .ok (.iadd, 1) := by decide +kernel
theorem dX12_decades_40 : decode cX12_decades 40 = .ok (.iastore, 1) := by decide +kernel
theorem dX12_decades_41 : decode cX12_decades 41 = .ok (.iconst 0, 1) := by decide +kernel
theorem dX12_decades_42 : decode cX12_decades 42 = .ok (.istore_n 3, 1) := by decide +kernel
theorem dX12_decades_43 : decode cX12_decades 43 = .ok (.iload_n 3, 1) := by decide +kernel
theorem dX12_decades_44 : decode cX12_decades 44 = .ok (.iload_n 2, 1) := by decide +kernel
theorem dX12_decades_45 : decode cX12_decades 45 = .ok (.if_icmp .ge 28, 3) := by decide +kernel
theorem dX12_decades_48 : decode cX12_decades 48 = .ok (.aload_n 0, 1) := by decide +kernel
theorem dX12_decades_49 : decode cX12_decades 49 = .ok (.getfield 7, 3) := by decide +kernel
theorem dX12_decades_52 : decode cX12_decades 52 = .ok (.bipush 8, 2) := by decide +kernel
theorem dX12_decades_54 : decode cX12_decades 54 = .ok (.iaload, 1) := by decide +kernel
theorem dX12_decades_55 : decode cX12_decades 55 = .ok (.istore 4, 2) := by decide +kernel
theorem dX12_decades_57 : decode cX12_decades 57 = .ok (.aload_n 0, 1) := by decide +kernel
theorem dX12_decades_58 : decode cX12_decades 58 = .ok (.invokevirtual 345, 3) := by decide +kernel
theorem dX12_decades_61 : decode cX12_decades 61 = .ok (.aload_n 0, 1) := by decide +kernel
theorem dX12_decades_62 : decode cX12_decades 62 = .ok (.iload 4, 2) := by decide +kernel
theorem dX12_decades_64 : decode cX12_decades 64 = .ok (.invokevirtual 402, 3) := by decide +kernel
theorem dX12_decades_67 : decode cX12_decades 67 = .ok (.iinc 3 1, 3) := by decide +kernel
theorem dX12_decades_70 : decode cX12_decades 70 = .ok (.goto (-27), 3) := by decide +kernel
theorem dX12_decades_73 : decode cX12_decades 73 = .ok (.aload_n 0, 1) := by decide +kernel
theorem dX12_decades_74 : decode cX12_decades 74 = .ok (.getfield 7, 3) := by decide +kernel
theorem dX12_decades_77 : decode cX12_decades 77 = .ok (.bipush 7, 2) := by decide +kernel
theorem dX12_decades_79 : decode cX12_decades 79 = .ok (.iaload, 1) := by decide +kernel
theorem dX12_decades_80 : decode cX12_decades 80 = .ok (.ireturn, 1) := by decide +kernel
set_option maxRecDepth 20000 in
theorem ggX12_of_X12_isHouse : GoodIn wsX12_of wsX12_isHouse := goodIn_r _ [6, 1, 7, 8, 5, 9, 69, 70, 71, 72, 73, 74, 75, 76, 77, 78, 79, 80, 81, 82, 83, 84, 85, 86, 87, 88, 89, 90, 91, 92, 93, 94, 95, 96, 97, 98, 99] rfl (by decide +kernel)
set_option maxRecDepth 20000 in
theorem gX12_of_X12_isHouse : GoodIn wsX12_of (wsV RX12 357 RX12 yX12_isHouse wsX12_isHouse) := goodIn_app (goodIn_of _ (by decide +kernel)) ggX12_of_X12_isHouse
set_option maxRecDepth 20000 in
theorem ggX12_of_X12_get : GoodIn wsX12_of wsX12_get := goodIn_r _ [13, 1, 69, 70, 71, 72, 73, 74, 75, 76, 77, 78, 79, 80, 81, 82, 83, 84, 85, 86, 87, 88, 89, 90, 91, 92, 93, 94, 95, 96, 97, 98, 99] rfl (by decide +kernel)
set_option maxRecDepth 20000 in
theorem gX12_of_X12_get : GoodIn wsX12_of (wsV RX12 84 RX12 yX12_get wsX12_get) := goodIn_app (goodIn_of _ (by decide +kernel)) ggX12_of_X12_get
set_option maxRecDepth 20000 in
theorem ggX12_of_X12_growsOf : GoodIn wsX12_of wsX12_growsOf := goodIn_r _ [17, 18, 19, 20, 21, 5, 22, 1, 10, 11, 12, 13, 23, 24, 25, 26, 27, 28, 29, 30, 31, 32, 33, 34, 35, 36, 37, 38, 39, 40, 41, 42, 43, 44, 45, 46, 47, 48, 49, 50, 51, 52, 53, 54, 55, 56, 57, 58, 59, 60, 61, 62, 63, 64, 65, 66, 67, 68, 69, 70, 71, 72, 73, 74, 75, 76, 77, 78, 79, 80, 81, 82, 83, 84, 85, 86, 87, 88, 89, 90, 91, 92, 93, 94, 95, 96, 97, 98, 99] rfl (by decide +kernel)
set_option maxRecDepth 20000 in
theorem gX12_of_X12_growsOf : GoodIn wsX12_of (wsV RX12 351 RX12 yX12_growsOf wsX12_growsOf) := goodIn_app (goodIn_of _ (by decide +kernel)) ggX12_of_X12_growsOf
set_option maxRecDepth 20000 in
theorem ggX12_of_X12_thereAt : GoodIn wsX12_of wsX12_thereAt := goodIn_r _ [26, 1, 27, 28, 29, 5, 30, 69, 70, 71, 72, 73, 74, 75, 76, 77, 78, 79, 80, 81, 82, 83, 84, 85, 86, 87, 88, 89, 90, 91, 92, 93, 94, 95, 96, 97, 98, 99] rfl (by decide +kernel)
set_option maxRecDepth 20000 in
theorem gX12_of_X12_thereAt : GoodIn wsX12_of (wsV RX12 318 RX12 yX12_thereAt wsX12_thereAt) := goodIn_app (goodIn_of _ (by decide +kernel)) ggX12_of_X12_thereAt
theorem dX12_of_0 : decode cX12_of 0 = .ok (.aload_n 0, 1) := by decide +kernel
theorem dX12_of_1 : decode cX12_of 1 = .ok (.iload_n 1, 1) := by decide +kernel
theorem dX12_of_2 : decode cX12_of 2 = .ok (.invokevirtual 357, 3) := by decide +kernel
theorem dX12_of_5 : decode cX12_of 5 = .ok (.ifCond .ne 6, 3) := by decide +kernel
theorem dX12_of_8 : decode cX12_of 8 = .ok (.bipush (-2), 2) := by decide +kernel
theorem dX12_of_10 : decode cX12_of 10 = .ok (.ireturn, 1) := by decide +kernel
theorem dX12_of_11 : decode cX12_of 11 = .ok (.iload_n 2, 1) := by decide +kernel
theorem dX12_of_12 : decode cX12_of 12 = .ok (.tableswitch 97 0 6 #[44, 51, 58, 65, 72, 79, 91], 44) := by decide +kernel
theorem dX12_of_56 : decode cX12_of 56 = .ok (.aload_n 0, 1) := by decide +kernel
theorem dX12_of_57 : decode cX12_of 57 = .ok (.iload_n 1, 1) := by decide +kernel
theorem dX12_of_58 : decode cX12_of 58 = .ok (.iconst 4, 1) := by decide +kernel
theorem dX12_of_59 : decode cX12_of 59 = .ok (.invokevirtual 84, 3) := by decide +kernel
theorem dX12_of_62 : decode cX12_of 62 = .ok (.ireturn, 1) := by decide +kernel
theorem dX12_of_63 : decode cX12_of 63 = .ok (.aload_n 0, 1) := by decide +kernel
theorem dX12_of_64 : decode cX12_of 64 = .ok (.iload_n 1, 1) := by decide +kernel
