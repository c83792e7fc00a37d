theorem dX10_rounded_12 : decode cX10_rounded 12 = .ok (.isub, 1) := by decide +kernel
theorem dX10_rounded_13 : decode cX10_rounded 13 = .ok (.lshl, 1) := by decide +kernel
theorem dX10_rounded_14 : decode cX10_rounded 14 = .ok (.ladd, 1) := by decide +kernel
theorem dX10_rounded_15 : decode cX10_rounded 15 = .ok (.iload_n 3, 1) := by decide +kernel
theorem dX10_rounded_16 : decode cX10_rounded 16 = .ok (.lshr, 1) := by decide +kernel
theorem dX10_rounded_17 : decode cX10_rounded 17 = .ok (.goto 6, 3) := by decide +kernel
theorem dX10_rounded_20 : decode cX10_rounded 20 = .ok (.lload_n 1, 1) := by decide +kernel
theorem dX10_rounded_21 : decode cX10_rounded 21 = .ok (.iload_n 3, 1) := by decide +kernel
theorem dX10_rounded_22 : decode cX10_rounded 22 = .ok (.lshr, 1) := by decide +kernel
theorem dX10_rounded_23 : decode cX10_rounded 23 = .ok (.lreturn, 1) := by decide +kernel
set_option maxRecDepth 20000 in
theorem ggX10_laid_X10_size : GoodIn wsX10_laid wsX10_size := goodIn_r _ [7, 8, 15, 16, 17, 18, 19, 20, 21, 22, 23, 24, 25, 26, 27, 28, 29, 30, 31, 32, 33, 34, 35, 36, 37, 38, 39, 40, 41, 42, 43, 44, 45, 46, 47, 48, 49, 50, 51] (by decide +kernel) (by decide +kernel)
set_option maxRecDepth 20000 in
theorem gX10_laid_X10_size : GoodIn wsX10_laid (wsV RX10 196 RX10 yX10_size wsX10_size) := goodIn_app (goodIn_of _ (by decide +kernel)) ggX10_laid_X10_size
set_option maxRecDepth 20000 in
theorem ggX10_laid_X10_lay : GoodIn wsX10_laid wsX10_lay := goodIn_r _ [12, 13, 14, 15, 16, 17, 18, 19, 20, 21, 22, 23, 24, 25, 26, 27, 28, 29, 30, 31, 32, 33, 34, 35, 36, 37, 38, 39, 40, 41, 42, 43, 44, 45, 46, 47, 48, 49, 50, 51] (by decide +kernel) (by decide +kernel)
set_option maxRecDepth 20000 in
theorem gX10_laid_X10_lay : GoodIn wsX10_laid (wsV RX10 118 RX10 yX10_lay wsX10_lay) := goodIn_app (goodIn_of _ (by decide +kernel)) ggX10_laid_X10_lay
theorem dX10_laid_0 : decode cX10_laid 0 = .ok (.iconst 0, 1) := by decide +kernel
theorem dX10_laid_1 : decode cX10_laid 1 = .ok (.istore_n 1, 1) := by decide +kernel
theorem dX10_laid_2 : decode cX10_laid 2 = .ok (.iload_n 1, 1) := by decide +kernel
theorem dX10_laid_3 : decode cX10_laid 3 = .ok (.aload_n 0, 1) := by decide +kernel
theorem dX10_laid_4 : decode cX10_laid 4 = .ok (.invokevirtual 196, 3) := by decide +kernel
theorem dX10_laid_7 : decode cX10_laid 7 = .ok (.if_icmp .ge 34, 3) := by decide +kernel
theorem dX10_laid_10 : decode cX10_laid 10 = .ok (.aload_n 0, 1) := by decide +kernel
theorem dX10_laid_11 : decode cX10_laid 11 = .ok (.iload_n 1, 1) := by decide +kernel
theorem dX10_laid_12 : decode cX10_laid 12 = .ok (.aload_n 0, 1) := by decide +kernel
theorem dX10_laid_13 : decode cX10_laid 13 = .ok (.getfield 42, 3) := by decide +kernel
theorem dX10_laid_16 : decode cX10_laid 16 = .ok (.iload_n 1, 1) := by decide +kernel
theorem dX10_laid_17 : decode cX10_laid 17 = .ok (.iaload, 1) := by decide +kernel
theorem dX10_laid_18 : decode cX10_laid 18 = .ok (.invokevirtual 118, 3) := by decide +kernel
theorem dX10_laid_21 : decode cX10_laid 21 = .ok (.aload_n 0, 1) := by decide +kernel
theorem dX10_laid_22 : decode cX10_laid 22 = .ok (.bipush 32, 2) := by decide +kernel
theorem dX10_laid_24 : decode cX10_laid 24 = .ok (.iload_n 1, 1) := by decide +kernel
theorem dX10_laid_25 : decode cX10_laid 25 = .ok (.iadd, 1) := by decide +kernel
theorem dX10_laid_26 : decode cX10_laid 26 = .ok (.aload_n 0, 1) := by decide +kernel
theorem dX10_laid_27 : decode cX10_laid 27 = .ok (.getfield 45, 3) := by decide +kernel
theorem dX10_laid_30 : decode cX10_laid 30 = .ok (.iload_n 1, 1) := by decide +kernel
theorem dX10_laid_31 : decode cX10_laid 31 = .ok (.iaload, 1) := by decide +kernel
theorem dX10_laid_32 : decode cX10_laid 32 = .ok (.invokevirtual 118, 3) := by decide +kernel
theorem dX10_laid_35 : decode cX10_laid 35 = .ok (.iinc 1 1, 3) := by decide +kernel
theorem dX10_laid_38 : decode cX10_laid 38 = .ok (.goto (-36), 3) := by decide +kernel
theorem dX10_laid_41 : decode cX10_laid 41 = .ok (.return_, 1) := by decide +kernel
set_option maxRecDepth 20000 in
theorem ggX10_reverses_X10_size : GoodIn wsX10_reverses wsX10_size := goodIn_r _ [7, 8, 42, 43, 44, 45, 46, 47, 48, 49, 50, 51, 52, 53, 54, 55, 56, 57, 58, 59, 60, 61, 62, 63, 64, 65, 66, 67, 68, 69, 70, 71, 72, 73, 74, 75, 76, 77, 78] (by decide +kernel) (by decide +kernel)
set_option maxRecDepth 20000 in
theorem gX10_reverses_X10_size : GoodIn wsX10_reverses (wsV RX10 196 RX10 yX10_size wsX10_size) := goodIn_app (goodIn_of _ (by decide +kernel)) ggX10_reverses_X10_size
set_option maxRecDepth 20000 in
theorem ggX10_reverses_X10_reversedOf : GoodIn wsX10_reverses wsX10_reversedOf := goodIn_r _ [12, 13, 14, 15, 6, 16, 17, 18, 19, 20, 21, 22, 23, 24, 25, 26, 27, 42, 43, 44, 45, 46, 47, 48, 49, 50, 51, 52, 53, 54, 55, 56, 57, 58, 59, 60, 61, 62, 63, 64, 65, 66, 67, 68, 69, 70, 71, 72, 73, 74, 75, 76, 77, 78] (by decide +kernel) (by decide +kernel)
set_option maxRecDepth 20000 in
theorem gX10_reverses_X10_reversedOf : GoodIn wsX10_reverses (wsV RX10 222 RX10 yX10_reversedOf wsX10_reversedOf) := goodIn_app (goodIn_of _ (by decide +kernel)) ggX10_reverses_X10_reversedOf
set_option maxRecDepth 20000 in
theorem ggX10_reverses_X10_of : GoodIn wsX10_reverses wsX10_of := goodIn_r _ [31, 32, 33, 42, 43, 44, 45, 46, 47, 48, 49, 50, 51, 52, 53, 54, 55, 56, 57, 58, 59, 60, 61, 62, 63, 64, 65, 66, 67, 68, 69, 70, 71, 72, 73, 74, 75, 76, 77, 78] (by decide +kernel) (by decide +kernel)
set_option maxRecDepth 20000 in
theorem gX10_reverses_X10_of : GoodIn wsX10_reverses (wsV RX10 187 RX10 yX10_of wsX10_of) := goodIn_app (goodIn_of _ (by decide +kernel)) ggX10_reverses_X10_of
set_option maxRecDepth 20000 in
theorem ggX10_reverses_X10_laid : GoodIn wsX10_reverses wsX10_laid := goodIn_r _ [37, 1, 2, 3, 4, 5, 6, 7, 8, 38, 39, 40, 41, 32, 33, 42, 43, 44, 45, 46, 47, 48, 49, 50, 51, 52, 53, 54, 55, 56, 57, 58, 59, 60, 61, 62, 63, 64, 65, 66, 67, 68, 69, 70, 71, 72, 73, 74, 75, 76, 77, 78] (by decide +kernel) (by decide +kernel)
set_option maxRecDepth 20000 in
theorem gX10_reverses_X10_laid : GoodIn wsX10_reverses (wsV RX10 234 RX10 yX10_laid wsX10_laid) := goodIn_app (goodIn_of _ (by decide +kernel)) ggX10_reverses_X10_laid
theorem dX10_reverses_0 : decode cX10_reverses 0 = .ok (.iconst 0, 1) := by decide +kernel
theorem dX10_reverses_1 : decode cX10_reverses 1 = .ok (.istore_n 1, 1) := by decide +kernel
theorem dX10_reverses_2 : decode cX10_reverses 2 = .ok (.iload_n 1, 1) := by decide +kernel
theorem dX10_reverses_3 : decode cX10_reverses 3 = .ok (.aload_n 0, 1) := by decide +kernel
theorem dX10_reverses_4 : decode cX10_reverses 4 = .ok (.invokevirtual 196, 3) := by decide +kernel
theorem dX10_reverses_7 : decode cX10_reverses 7 = .ok (.if_icmp .ge 40, 3) := by decide +kernel
theorem dX10_reverses_10 : decode cX10_reverses 10 = .ok (.aload_n 0, 1) := by decide +kernel
theorem dX10_reverses_11 : decode cX10_reverses 11 = .ok (.iload_n 1, 1) := by decide +kernel
theorem dX10_reverses_12 : decode cX10_reverses 12 = .ok (.invokevirtual 222, 3) := by decide +kernel
theorem dX10_reverses_15 : decode cX10_reverses 15 = .ok (.istore_n 2, 1) := by decide +kernel
theorem dX10_reverses_16 : decode cX10_reverses 16 = .ok (.aload_n 0, 1) := by decide +kernel
theorem dX10_reverses_17 : decode cX10_reverses 17 = .ok (.getfield 42, 3) := by decide +kernel
theorem dX10_reverses_20 : decode cX10_reverses 20 = .ok (.iload_n 2, 1) := by decide +kernel
theorem dX10_reverses_21 : decode cX10_reverses 21 = .ok (.aload_n 0, 1) := by decide +kernel
theorem dX10_reverses_22 : decode cX10_reverses 22 = .ok (.iload_n 1, 1) := by decide +kernel
theorem dX10_reverses_23 : decode cX10_reverses 23 = .ok (.invokevirtual 187, 3) := by decide +kernel
theorem dX10_reverses_26 : decode cX10_reverses 26 = .ok (.iastore, 1) := by decide +kernel
theorem dX10_reverses_27 : decode cX10_reverses 27 = .ok (.aload_n 0, 1) := by decide +kernel
theorem dX10_reverses_28 : decode cX10_reverses 28 = .ok (.getfield 45, 3) := by decide +kernel
theorem dX10_reverses_31 : decode cX10_reverses 31 = .ok (.iload_n 2, 1) := by decide +kernel
theorem dX10_reverses_32 : decode cX10_reverses 32 = .ok (.aload_n 0, 1) := by decide +kernel
theorem dX10_reverses_33 : decode cX10_reverses 33 = .ok (.bipush 32, 2) := by decide +kernel
theorem dX10_reverses_35 : decode cX10_reverses 35 = .ok (.iload_n 1, 1) := by decide +kernel
theorem dX10_reverses_36 : decode cX10_reverses 36 = .ok (.iadd, 1) := by decide +kernel
theorem dX10_reverses_37 : decode cX10_reverses 37 = .ok (.invokevirtual 187, 3) := by decide +kernel
theorem dX10_reverses_40 : decode cX10_reverses 40 = .ok (.iastore, 1) := by decide +kernel
theorem dX10_reverses_41 : decode cX10_reverses 41 = .ok (.iinc 1 1, 3) := by decide +kernel
theorem dX10_reverses_44 : decode cX10_reverses 44 = .ok (.goto (-42), 3) := by decide +kernel
theorem dX10_reverses_47 : decode cX10_reverses 47 = .ok (.aload_n 0, 1) := by decide +kernel
theorem dX10_reverses_48 : decode cX10_reverses 48 = .ok (.invokevirtual 234, 3) := by decide +kernel
theorem dX10_reverses_51 : decode cX10_reverses 51 = .ok (.return_, 1) := by decide +kernel
set_option maxRecDepth 20000 in
theorem ggX10_halvedNow_X10_largestNow : GoodIn wsX10_halvedNow wsX10_largestNow := goodIn_r _ [8, 9, 10, 11, 7, 12, 13, 14, 15, 16, 17, 18, 19, 20, 21, 22, 23, 24, 25, 26, 36, 37, 38, 39, 40, 41, 42, 43, 44, 45, 46, 47, 48, 49, 50, 51, 52, 53, 54, 55, 56, 57, 58, 59, 60, 61, 62, 63, 64, 65, 66, 67, 68, 69, 70, 71, 72] (by decide +kernel) (by decide +kernel)
set_option maxRecDepth 20000 in
theorem gX10_halvedNow_X10_largestNow : GoodIn wsX10_halvedNow (wsV RX10 237 RX10 yX10_largestNow wsX10_largestNow) := goodIn_app (goodIn_of _ (by decide +kernel)) ggX10_halvedNow_X10_largestNow
set_option maxRecDepth 20000 in
theorem ggX10_halvedNow_X10_of : GoodIn wsX10_halvedNow wsX10_of := goodIn_r _ [21, 22, 23, 36, 37, 38, 39, 40, 41, 42, 43, 44, 45, 46, 47, 48, 49, 50, 51, 52, 53, 54, 55, 56, 57, 58, 59, 60, 61, 62, 63, 64, 65, 66, 67, 68, 69, 70, 71, 72] (by decide +kernel) (by decide +kernel)
set_option maxRecDepth 20000 in
theorem gX10_halvedNow_X10_of : GoodIn wsX10_halvedNow (wsV RX10 187 RX10 yX10_of wsX10_of) := goodIn_app (goodIn_of _ (by decide +kernel)) ggX10_halvedNow_X10_of
set_option maxRecDepth 20000 in
theorem ggX10_halvedNow_X10_rounded : GoodIn wsX10_halvedNow wsX10_rounded := goodIn_r _ [30, 31, 36, 37, 38, 39, 40, 41, 42, 43, 44, 45, 46, 47, 48, 49, 50, 51, 52, 53, 54, 55, 56, 57, 58, 59, 60, 61, 62, 63, 64, 65, 66, 67, 68, 69, 70, 71, 72] (by decide +kernel) (by decide +kernel)
set_option maxRecDepth 20000 in
theorem gX10_halvedNow_X10_rounded : GoodIn wsX10_halvedNow (wsV RX10 240 RX10 yX10_rounded wsX10_rounded) := goodIn_app (goodIn_of _ (by decide +kernel)) ggX10_halvedNow_X10_rounded
set_option maxRecDepth 20000 in
theorem ggX10_halvedNow_X10_lay : GoodIn wsX10_halvedNow wsX10_lay := goodIn_r _ [35, 22, 23, 36, 37, 38, 39, 40, 41, 42, 43, 44, 45, 46, 47, 48, 49, 50, 51, 52, 53, 54, 55, 56, 57, 58, 59, 60, 61, 62, 63, 64, 65, 66, 67, 68, 69, 70, 71, 72] (by decide +kernel) (by decide +kernel)
set_option maxRecDepth 20000 in
theorem gX10_halvedNow_X10_lay : GoodIn wsX10_halvedNow (wsV RX10 118 RX10 yX10_lay wsX10_lay) := goodIn_app (goodIn_of _ (by decide +kernel)) ggX10_halvedNow_X10_lay
theorem dX10_halvedNow_0 : decode cX10_halvedNow 0 = .ok (.iload_n 1, 1) := by decide +kernel
theorem dX10_halvedNow_1 : decode cX10_halvedNow 1 = .ok (.iconst 4, 1) := by decide +kernel
theorem dX10_halvedNow_2 : decode cX10_halvedNow 2 = .ok (.if_icmp .ne 8, 3) := by decide +kernel
theorem dX10_halvedNow_5 : decode cX10_halvedNow 5 = .ok (.bipush 12, 2) := by decide +kernel
theorem dX10_halvedNow_7 : decode cX10_halvedNow 7 = .ok (.goto 16, 3) := by decide +kernel
theorem dX10_halvedNow_10 : decode cX10_halvedNow 10 = .ok (.aload_n 0, 1) := by decide +kernel
theorem dX10_halvedNow_11 : decode cX10_halvedNow 11 = .ok (.getfield 169, 3) := by decide +kernel
theorem dX10_halvedNow_14 : decode cX10_halvedNow 14 = .ok (.ifCond .ne 7, 3) := by decide +kernel
theorem dX10_halvedNow_17 : decode cX10_halvedNow 17 = .ok (.iconst 5, 1) := by decide +kernel
theorem dX10_halvedNow_18 : decode cX10_halvedNow 18 = .ok (.goto 5, 3) := by decide +kernel
theorem dX10_halvedNow_21 : decode cX10_halvedNow 21 = .ok (.bipush 6, 2) := by decide +kernel
theorem dX10_halvedNow_23 : decode cX10_halvedNow 23 = .ok (.istore_n 2, 1) := by decide +kernel
theorem dX10_halvedNow_24 : decode cX10_halvedNow 24 = .ok (.iconst 0, 1) := by decide +kernel
theorem dX10_halvedNow_25 : decode cX10_halvedNow 25 = .ok (.istore_n 3, 1) := by decide +kernel
theorem dX10_halvedNow_26 : decode cX10_halvedNow 26 = .ok (.aload_n 0, 1) := by decide +kernel
theorem dX10_halvedNow_27 : decode cX10_halvedNow 27 = .ok (.getfield 178, 3) := by decide +kernel
theorem dX10_halvedNow_30 : decode cX10_halvedNow 30 = .ok (.ifCond .eq 59, 3) := by decide +kernel
theorem dX10_halvedNow_33 : decode cX10_halvedNow 33 = .ok (.aload_n 0, 1) := by decide +kernel
theorem dX10_halvedNow_34 : decode cX10_halvedNow 34 = .ok (.invokevirtual 237, 3) := by decide +kernel
theorem dX10_halvedNow_37 : decode cX10_halvedNow 37 = .ok (.iload_n 2, 1) := by decide +kernel
theorem dX10_halvedNow_38 : decode cX10_halvedNow 38 = .ok (.imul, 1) := by decide +kernel
theorem dX10_halvedNow_39 : decode cX10_halvedNow 39 = .ok (.iconst 2, 1) := by decide +kernel
theorem dX10_halvedNow_40 : decode cX10_halvedNow 40 = .ok (.aload_n 0, 1) := by decide +kernel
theorem dX10_halvedNow_41 : decode cX10_halvedNow 41 = .ok (.getfield 175, 3) := by decide +kernel
theorem dX10_halvedNow_44 : decode cX10_halvedNow 44 = .ok (.imul, 1) := by decide +kernel
theorem dX10_halvedNow_45 : decode cX10_halvedNow 45 = .ok (.if_icmp .le 44, 3) := by decide +kernel
theorem dX10_halvedNow_48 : decode cX10_halvedNow 48 = .ok (.iconst 0, 1) := by decide +kernel
theorem dX10_halvedNow_49 : decode cX10_halvedNow 49 = .ok (.istore 4, 2) := by decide +kernel
theorem dX10_halvedNow_51 : decode cX10_halvedNow 51 = .ok (.iload 4, 2) := by decide +kernel
theorem dX10_halvedNow_53 : decode cX10_halvedNow 53 = .ok (.bipush 64, 2) := by decide +kernel
theorem dX10_halvedNow_55 : decode cX10_halvedNow 55 = .ok (.if_icmp .ge 28, 3) := by decide +kernel
theorem dX10_halvedNow_58 : decode cX10_halvedNow 58 = .ok (.aload_n 0, 1) := by decide +kernel
theorem dX10_halvedNow_59 : decode cX10_halvedNow 59 = .ok (.iload 4, 2) := by decide +kernel
theorem dX10_halvedNow_61 : decode cX10_halvedNow 61 = .ok (.aload_n 0, 1) := by decide +kernel
theorem dX10_halvedNow_62 : decode cX10_halvedNow 62 = .ok (.aload_n 0, 1) := by decide +kernel
theorem dX10_halvedNow_63 : decode cX10_halvedNow 63 = .ok (.iload 4, 2) := by decide +kernel
theorem dX10_halvedNow_65 : decode cX10_halvedNow 65 = .ok (.invokevirtual 187, 3) := by decide +kernel
theorem dX10_halvedNow_68 : decode cX10_halvedNow 68 = .ok (.i2l, 1) := by decide +kernel
theorem dX10_halvedNow_69 : decode cX10_halvedNow 69 = .ok (.iconst 1, 1) := by decide +kernel
theorem dX10_halvedNow_70 : decode cX10_halvedNow 70 = .ok (.invokevirtual 240, 3) := by decide +kernel
theorem dX10_halvedNow_73 : decode cX10_halvedNow 73 = .ok (.l2i, 1) := by decide +kernel
theorem dX10_halvedNow_74 : decode cX10_halvedNow 74 = .ok (.invokevirtual 118, 3) := by decide +kernel
theorem dX10_halvedNow_77 : decode cX10_halvedNow 77 = .ok (.iinc 4 1, 3) := by decide +kernel
theorem dX10_halvedNow_80 : decode cX10_halvedNow 80 = .ok (.goto (-29), 3) := by decide +kernel
theorem dX10_halvedNow_83 : decode cX10_halvedNow 83 = .ok (.iinc 3 1, 3) := by decide +kernel
theorem dX10_halvedNow_86 : decode cX10_halvedNow 86 = .ok (.goto (-60), 3) := by decide +kernel
theorem dX10_halvedNow_89 : decode cX10_halvedNow 89 = .ok (.iload_n 3, 1) := by decide +kernel
theorem dX10_halvedNow_90 : decode cX10_halvedNow 90 = .ok (.ireturn, 1) := by decide +kernel
set_option maxRecDepth 20000 in
theorem ggX10_turnedRe_X10_cosOf : GoodIn wsX10_turnedRe wsX10_cosOf := goodIn_r _ [5, 6, 7, 8, 4, 9, 10, 11, 12, 13, 14, 15, 25, 26, 27, 28, 29, 30, 31, 32, 33, 34, 35, 36, 37, 38, 39, 40, 41, 42, 43, 44, 45, 46, 47, 48, 49, 50, 51, 52, 53, 54, 55, 56, 57, 58, 59, 60, 61] (by decide +kernel) (by decide +kernel)
set_option maxRecDepth 20000 in
theorem gX10_turnedRe_X10_cosOf : GoodIn wsX10_turnedRe (wsV RX10 207 RX10 yX10_cosOf wsX10_cosOf) := goodIn_app (goodIn_of _ (by decide +kernel)) ggX10_turnedRe_X10_cosOf
set_option maxRecDepth 20000 in
theorem ggX10_turnedRe_X10_sinOf : GoodIn wsX10_turnedRe wsX10_sinOf := goodIn_r _ [19, 6, 7, 8, 4, 9, 10, 11, 12, 13, 14, 15, 25, 26, 27, 28, 29, 30, 31, 32, 33, 34, 35, 36, 37, 38, 39, 40, 41, 42, 43, 44, 45, 46, 47, 48, 49, 50, 51, 52, 53, 54, 55, 56, 57, 58, 59, 60, 61] (by decide +kernel) (by decide +kernel)
set_option maxRecDepth 20000 in
theorem gX10_turnedRe_X10_sinOf : GoodIn wsX10_turnedRe (wsV RX10 210 RX10 yX10_sinOf wsX10_sinOf) := goodIn_app (goodIn_of _ (by decide +kernel)) ggX10_turnedRe_X10_sinOf
set_option maxRecDepth 20000 in
theorem ggX10_turnedRe_X10_rounded : GoodIn wsX10_turnedRe wsX10_rounded := goodIn_r _ [23, 24, 25, 26, 27, 28, 29, 30, 31, 32, 33, 34, 35, 36, 37, 38, 39, 40, 41, 42, 43, 44, 45, 46, 47, 48, 49, 50, 51, 52, 53, 54, 55, 56, 57, 58, 59, 60, 61] (by decide +kernel) (by decide +kernel)
set_option maxRecDepth 20000 in
theorem gX10_turnedRe_X10_rounded : GoodIn wsX10_turnedRe (wsV RX10 240 RX10 yX10_rounded wsX10_rounded) := goodIn_app (goodIn_of _ (by decide +kernel)) ggX10_turnedRe_X10_rounded
theorem dX10_turnedRe_0 : decode cX10_turnedRe 0 = .ok (.aload_n 0, 1) := by decide +kernel
theorem dX10_turnedRe_1 : decode cX10_turnedRe 1 = .ok (.iload_n 1, 1) := by decide +kernel
theorem dX10_turnedRe_2 : decode cX10_turnedRe 2 = .ok (.i2l, 1) := by decide +kernel
theorem dX10_turnedRe_3 : decode cX10_turnedRe 3 = .ok (.aload_n 0, 1) := by decide +kernel
theorem dX10_turnedRe_4 : decode cX10_turnedRe 4 = .ok (.iload_n 3, 1) := by decide +kernel
theorem dX10_turnedRe_5 : decode cX10_turnedRe 5 = .ok (.invokevirtual 207, 3) := by decide +kernel
theorem dX10_turnedRe_8 : decode cX10_turnedRe 8 = .ok (.i2l, 1) := by decide +kernel
theorem dX10_turnedRe_9 : decode cX10_turnedRe 9 = .ok (.lmul, 1) := by decide +kernel
theorem dX10_turnedRe_10 : decode cX10_turnedRe 10 = .ok (.iload_n 2, 1) := by decide +kernel
theorem dX10_turnedRe_11 : decode cX10_turnedRe 11 = .ok (.i2l, 1) := by decide +kernel
theorem dX10_turnedRe_12 : decode cX10_turnedRe 12 = .ok (.aload_n 0, 1) := by decide +kernel
theorem dX10_turnedRe_13 : decode cX10_turnedRe 13 = .ok (.iload_n 3, 1) := by decide +kernel
theorem dX10_turnedRe_14 : decode cX10_turnedRe 14 = .ok (.invokevirtual 210, 3) := by decide +kernel
theorem dX10_turnedRe_17 : decode cX10_turnedRe 17 = .ok (.i2l, 1) := by decide +kernel
theorem dX10_turnedRe_18 : decode cX10_turnedRe 18 = .ok (.lmul, 1) := by decide +kernel
theorem dX10_turnedRe_19 : decode cX10_turnedRe 19 = .ok (.ladd, 1) := by decide +kernel
theorem dX10_turnedRe_20 : decode cX10_turnedRe 20 = .ok (.bipush 14, 2) := by decide +kernel
theorem dX10_turnedRe_22 : decode cX10_turnedRe 22 = .ok (.invokevirtual 240, 3) := by decide +kernel
theorem dX10_turnedRe_25 : decode cX10_turnedRe 25 = .ok (.lreturn, 1) := by decide +kernel
set_option maxRecDepth 20000 in
theorem ggX10_turnedIm_X10_cosOf : GoodIn wsX10_turnedIm wsX10_cosOf := goodIn_r _ [5, 6, 7, 8, 4, 9, 10, 11, 12, 13, 14, 15, 25, 26, 27, 28, 29, 30, 31, 32, 33, 34, 35, 36, 37, 38, 39, 40, 41, 42, 43, 44, 45, 46, 47, 48, 49, 50, 51, 52, 53, 54, 55, 56, 57, 58, 59, 60, 61] (by decide +kernel) (by decide +kernel)
set_option maxRecDepth 20000 in
theorem gX10_turnedIm_X10_cosOf : GoodIn wsX10_turnedIm (wsV RX10 207 RX10 yX10_cosOf wsX10_cosOf) := goodIn_app (goodIn_of _ (by decide +kernel)) ggX10_turnedIm_X10_cosOf
set_option maxRecDepth 20000 in
theorem ggX10_turnedIm_X10_sinOf : GoodIn wsX10_turnedIm wsX10_sinOf := goodIn_r _ [19, 6, 7, 8, 4, 9, 10, 11, 12, 13, 14, 15, 25, 26, 27, 28, 29, 30, 31, 32, 33, 34, 35, 36, 37, 38, 39, 40, 41, 42, 43, 44, 45, 46, 47, 48, 49, 50, 51, 52, 53, 54, 55, 56, 57, 58, 59, 60, 61] (by decide +kernel) (by decide +kernel)
set_option maxRecDepth 20000 in
theorem gX10_turnedIm_X10_sinOf : GoodIn wsX10_turnedIm (wsV RX10 210 RX10 yX10_sinOf wsX10_sinOf) := goodIn_app (goodIn_of _ (by decide +kernel)) ggX10_turnedIm_X10_sinOf
set_option maxRecDepth 20000 in
theorem ggX10_turnedIm_X10_rounded : GoodIn wsX10_turnedIm wsX10_rounded := goodIn_r _ [23, 24, 25, 26, 27, 28, 29, 30, 31, 32, 33, 34, 35, 36, 37, 38, 39, 40, 41, 42, 43, 44, 45, 46, 47, 48, 49, 50, 51, 52, 53, 54, 55, 56, 57, 58, 59, 60, 61] (by decide +kernel) (by decide +kernel)
set_option maxRecDepth 20000 in
theorem gX10_turnedIm_X10_rounded : GoodIn wsX10_turnedIm (wsV RX10 240 RX10 yX10_rounded wsX10_rounded) := goodIn_app (goodIn_of _ (by decide +kernel)) ggX10_turnedIm_X10_rounded
theorem dX10_turnedIm_0 : decode cX10_turnedIm 0 = .ok (.aload_n 0, 1) := by decide +kernel
theorem dX10_turnedIm_1 : decode cX10_turnedIm 1 = .ok (.iload_n 2, 1) := by decide +kernel
theorem dX10_turnedIm_2 : decode cX10_turnedIm 2 = .ok (.i2l, 1) := by decide +kernel
theorem dX10_turnedIm_3 : decode cX10_turnedIm 3 = .ok (.aload_n 0, 1) := by decide +kernel
theorem dX10_turnedIm_4 : decode cX10_turnedIm 4 = .ok (.iload_n 3, 1) := by decide +kernel
theorem dX10_turnedIm_5 : decode cX10_turnedIm 5 = .ok (.invokevirtual 207, 3) := by decide +kernel
theorem dX10_turnedIm_8 : decode cX10_turnedIm 8 = .ok (.i2l, 1) := by decide +kernel
theorem dX10_turnedIm_9 : decode cX10_turnedIm 9 = .ok (.lmul, 1) := by decide +kernel
theorem dX10_turnedIm_10 : decode cX10_turnedIm 10 = .ok (.iload_n 1, 1) := by decide +kernel
theorem dX10_turnedIm_11 : decode cX10_turnedIm 11 = .ok (.i2l, 1) := by decide +kernel
theorem dX10_turnedIm_12 : decode cX10_turnedIm 12 = .ok (.aload_n 0, 1) := by decide +kernel
theorem dX10_turnedIm_13 : decode cX10_turnedIm 13 = .ok (.iload_n 3, 1) := by decide +kernel
theorem dX10_turnedIm_14 : decode cX10_turnedIm 14 = .ok (.invokevirtual 210, 3) := by decide +kernel
theorem dX10_turnedIm_17 : decode cX10_turnedIm 17 = .ok (.i2l, 1) := by decide +kernel
theorem dX10_turnedIm_18 : decode cX10_turnedIm 18 = .ok (.lmul, 1) := by decide +kernel
theorem dX10_turnedIm_19 : decode cX10_turnedIm 19 = .ok (.lsub, 1) := by decide +kernel
theorem dX10_turnedIm_20 : decode cX10_turnedIm 20 = .ok (.bipush 14, 2) := by decide +kernel
theorem dX10_turnedIm_22 : decode cX10_turnedIm 22 = .ok (.invokevirtual 240, 3) := by decide +kernel
theorem dX10_turnedIm_25 : decode cX10_turnedIm 25 = .ok (.lreturn, 1) := by decide +kernel
set_option maxRecDepth 20000 in
theorem ggX10_gathers_X10_of : GoodIn wsX10_gathers wsX10_of := goodIn_r _ [8, 9, 10, 42, 43, 44, 45, 46, 47, 48, 49, 50, 51, 52, 53, 54, 55, 56, 57, 58, 59, 60, 61, 62, 63, 64, 65, 66, 67, 68, 69, 70, 71, 72, 73, 74, 75, 76, 77, 78] (by decide +kernel) (by decide +kernel)
set_option maxRecDepth 20000 in
theorem gX10_gathers_X10_of : GoodIn wsX10_gathers (wsV RX10 187 RX10 yX10_of wsX10_of) := goodIn_app (goodIn_of _ (by decide +kernel)) ggX10_gathers_X10_of
set_option maxRecDepth 20000 in
theorem ggX10_gathers_X10_turnedRe : GoodIn wsX10_gathers wsX10_turnedRe := goodIn_r _ [14, 15, 16, 17, 7, 18, 19, 20, 21, 22, 23, 24, 25, 26, 27, 28, 29, 30, 31, 32, 33, 34, 35, 36, 37, 42, 43, 44, 45, 46, 47, 48, 49, 50, 51, 52, 53, 54, 55, 56, 57, 58, 59, 60, 61, 62, 63, 64, 65, 66, 67, 68, 69, 70, 71, 72, 73, 74, 75, 76, 77, 78] (by decide +kernel) (by decide +kernel)
set_option maxRecDepth 20000 in
theorem gX10_gathers_X10_turnedRe : GoodIn wsX10_gathers (wsV RX10 244 RX10 yX10_turnedRe wsX10_turnedRe) := goodIn_app (goodIn_of _ (by decide +kernel)) ggX10_gathers_X10_turnedRe
set_option maxRecDepth 20000 in
theorem ggX10_gathers_X10_turnedIm : GoodIn wsX10_gathers wsX10_turnedIm := goodIn_r _ [41, 15, 16, 17, 7, 18, 19, 20, 21, 22, 23, 24, 25, 26, 27, 28, 29, 30, 31, 32, 33, 34, 35, 36, 37, 42, 43, 44, 45, 46, 47, 48, 49, 50, 51, 52, 53, 54, 55, 56, 57, 58, 59, 60, 61, 62, 63, 64, 65, 66, 67, 68, 69, 70, 71, 72, 73, 74, 75, 76, 77, 78] (by decide +kernel) (by decide +kernel)
set_option maxRecDepth 20000 in
theorem gX10_gathers_X10_turnedIm : GoodIn wsX10_gathers (wsV RX10 248 RX10 yX10_turnedIm wsX10_turnedIm) := goodIn_app (goodIn_of _ (by decide +kernel)) ggX10_gathers_X10_turnedIm
theorem dX10_gathers_0 : decode cX10_gathers 0 = .ok (.iload_n 1, 1) := by decide +kernel
theorem dX10_gathers_1 : decode cX10_gathers 1 = .ok (.iload_n 1, 1) := by decide +kernel
theorem dX10_gathers_2 : decode cX10_gathers 2 = .ok (.iload_n 2, 1) := by decide +kernel
theorem dX10_gathers_3 : decode cX10_gathers 3 = .ok (.iload_n 3, 1) := by decide +kernel
theorem dX10_gathers_4 : decode cX10_gathers 4 = .ok (.imul, 1) := by decide +kernel
theorem dX10_gathers_5 : decode cX10_gathers 5 = .ok (.irem, 1) := by decide +kernel
theorem dX10_gathers_6 : decode cX10_gathers 6 = .ok (.isub, 1) := by decide +kernel
theorem dX10_gathers_7 : decode cX10_gathers 7 = .ok (.istore 5, 2) := by decide +kernel
theorem dX10_gathers_9 : decode cX10_gathers 9 = .ok (.iload_n 1, 1) := by decide +kernel
theorem dX10_gathers_10 : decode cX10_gathers 10 = .ok (.iload_n 2, 1) := by decide +kernel
theorem dX10_gathers_11 : decode cX10_gathers 11 = .ok (.iload_n 3, 1) := by decide +kernel
theorem dX10_gathers_12 : decode cX10_gathers 12 = .ok (.imul, 1) := by decide +kernel
theorem dX10_gathers_13 : decode cX10_gathers 13 = .ok (.irem, 1) := by decide +kernel
theorem dX10_gathers_14 : decode cX10_gathers 14 = .ok (.iload_n 3, 1) := by decide +kernel
theorem dX10_gathers_15 : decode cX10_gathers 15 = .ok (.idiv, 1) := by decide +kernel
theorem dX10_gathers_16 : decode cX10_gathers 16 = .ok (.istore 6, 2) := by decide +kernel
theorem dX10_gathers_18 : decode cX10_gathers 18 = .ok (.iload_n 1, 1) := by decide +kernel
theorem dX10_gathers_19 : decode cX10_gathers 19 = .ok (.iload_n 3, 1) := by decide +kernel
theorem dX10_gathers_20 : decode cX10_gathers 20 = .ok (.irem, 1) := by decide +kernel
theorem dX10_gathers_21 : decode cX10_gathers 21 = .ok (.istore 7, 2) := by decide +kernel
theorem dX10_gathers_23 : decode cX10_gathers 23 = .ok (.iconst 0, 1) := by decide +kernel
theorem dX10_gathers_24 : decode cX10_gathers 24 = .ok (.istore 8, 2) := by decide +kernel
theorem dX10_gathers_26 : decode cX10_gathers 26 = .ok (.iconst 0, 1) := by decide +kernel
theorem dX10_gathers_27 : decode cX10_gathers 27 = .ok (.istore 9, 2) := by decide +kernel
theorem dX10_gathers_29 : decode cX10_gathers 29 = .ok (.iconst 0, 1) := by decide +kernel
theorem dX10_gathers_30 : decode cX10_gathers 30 = .ok (.istore 10, 2) := by decide +kernel
theorem dX10_gathers_32 : decode cX10_gathers 32 = .ok (.iload 10, 2) := by decide +kernel
theorem dX10_gathers_34 : decode cX10_gathers 34 = .ok (.iload_n 2, 1) := by decide +kernel
theorem dX10_gathers_35 : decode cX10_gathers 35 = .ok (.if_icmp .ge 148, 3) := by decide +kernel
theorem dX10_gathers_38 : decode cX10_gathers 38 = .ok (.aload_n 0, 1) := by decide +kernel
theorem dX10_gathers_39 : decode cX10_gathers 39 = .ok (.iload 5, 2) := by decide +kernel
theorem dX10_gathers_41 : decode cX10_gathers 41 = .ok (.iload 7, 2) := by decide +kernel
theorem dX10_gathers_43 : decode cX10_gathers 43 = .ok (.iadd, 1) := by decide +kernel
theorem dX10_gathers_44 : decode cX10_gathers 44 = .ok (.iload 10, 2) := by decide +kernel
theorem dX10_gathers_46 : decode cX10_gathers 46 = .ok (.iload_n 3, 1) := by decide +kernel
theorem dX10_gathers_47 : decode cX10_gathers 47 = .ok (.imul, 1) := by decide +kernel
theorem dX10_gathers_48 : decode cX10_gathers 48 = .ok (.iadd, 1) := by decide +kernel
theorem dX10_gathers_49 : decode cX10_gathers 49 = .ok (.invokevirtual 187, 3) := by decide +kernel
theorem dX10_gathers_52 : decode cX10_gathers 52 = .ok (.istore 11, 2) := by decide +kernel
theorem dX10_gathers_54 : decode cX10_gathers 54 = .ok (.aload_n 0, 1) := by decide +kernel
theorem dX10_gathers_55 : decode cX10_gathers 55 = .ok (.bipush 32, 2) := by decide +kernel
theorem dX10_gathers_57 : decode cX10_gathers 57 = .ok (.iload 5, 2) := by decide +kernel
theorem dX10_gathers_59 : decode cX10_gathers 59 = .ok (.iadd, 1) := by decide +kernel
theorem dX10_gathers_60 : decode cX10_gathers 60 = .ok (.iload 7, 2) := by decide +kernel
theorem dX10_gathers_62 : decode cX10_gathers 62 = .ok (.iadd, 1) := by decide +kernel
theorem dX10_gathers_63 : decode cX10_gathers 63 = .ok (.iload 10, 2) := by decide +kernel
theorem dX10_gathers_65 : decode cX10_gathers 65 = .ok (.iload_n 3, 1) := by decide +kernel
theorem dX10_gathers_66 : decode cX10_gathers 66 = .ok (.imul, 1) := by decide +kernel
theorem dX10_gathers_67 : decode cX10_gathers 67 = .ok (.iadd, 1) := by decide +kernel
theorem dX10_gathers_68 : decode cX10_gathers 68 = .ok (.invokevirtual 187, 3) := by decide +kernel
theorem dX10_gathers_71 : decode cX10_gathers 71 = .ok (.istore 12, 2) := by decide +kernel
theorem dX10_gathers_73 : decode cX10_gathers 73 = .ok (.aload_n 0, 1) := by decide +kernel
theorem dX10_gathers_74 : decode cX10_gathers 74 = .ok (.getfield 169, 3) := by decide +kernel
theorem dX10_gathers_77 : decode cX10_gathers 77 = .ok (.ifCond .ne 48, 3) := by decide +kernel
theorem dX10_gathers_80 : decode cX10_gathers 80 = .ok (.iload 10, 2) := by decide +kernel
theorem dX10_gathers_82 : decode cX10_gathers 82 = .ok (.ifCond .le 43, 3) := by decide +kernel
theorem dX10_gathers_85 : decode cX10_gathers 85 = .ok (.iload 10, 2) := by decide +kernel
theorem dX10_gathers_87 : decode cX10_gathers 87 = .ok (.iload 7, 2) := by decide +kernel
theorem dX10_gathers_89 : decode cX10_gathers 89 = .ok (.imul, 1) := by decide +kernel
theorem dX10_gathers_90 : decode cX10_gathers 90 = .ok (.iload 4, 2) := by decide +kernel
theorem dX10_gathers_92 : decode cX10_gathers 92 = .ok (.imul, 1) := by decide +kernel
theorem dX10_gathers_93 : decode cX10_gathers 93 = .ok (.istore 13, 2) := by decide +kernel
theorem dX10_gathers_95 : decode cX10_gathers 95 = .ok (.aload_n 0, 1) := by decide +kernel
theorem dX10_gathers_96 : decode cX10_gathers 96 = .ok (.iload 11, 2) := by decide +kernel
theorem dX10_gathers_98 : decode cX10_gathers 98 = .ok (.iload 12, 2) := by decide +kernel
theorem dX10_gathers_100 : decode cX10_gathers 100 = .ok (.iload 13, 2) := by decide +kernel
theorem dX10_gathers_102 : decode cX10_gathers 102 = .ok (.invokevirtual 244, 3) := by decide +kernel
theorem dX10_gathers_105 : decode cX10_gathers 105 = .ok (.l2i, 1) := by decide +kernel
theorem dX10_gathers_106 : decode cX10_gathers 106 = .ok (.istore 14, 2) := by decide +kernel
theorem dX10_gathers_108 : decode cX10_gathers 108 = .ok (.aload_n 0, 1) := by decide +kernel
theorem dX10_gathers_109 : decode cX10_gathers 109 = .ok (.iload 11, 2) := by decide +kernel
theorem dX10_gathers_111 : decode cX10_gathers 111 = .ok (.iload 12, 2) := by decide +kernel
theorem dX10_gathers_113 : decode cX10_gathers 113 = .ok (.iload 13, 2) := by decide +kernel
theorem dX10_gathers_115 : decode cX10_gathers 115 = .ok (.invokevirtual 248, 3) := by decide +kernel
theorem dX10_gathers_118 : decode cX10_gathers 118 = .ok (.l2i, 1) := by decide +kernel
theorem dX10_gathers_119 : decode cX10_gathers 119 = .ok (.istore 12, 2) := by decide +kernel
theorem dX10_gathers_121 : decode cX10_gathers 121 = .ok (.iload 14, 2) := by decide +kernel
theorem dX10_gathers_123 : decode cX10_gathers 123 = .ok (.istore 11, 2) := by decide +kernel
theorem dX10_gathers_125 : decode cX10_gathers 125 = .ok (.iconst 0, 1) := by decide +kernel
theorem dX10_gathers_126 : decode cX10_gathers 126 = .ok (.istore 13, 2) := by decide +kernel
theorem dX10_gathers_128 : decode cX10_gathers 128 = .ok (.iload 13, 2) := by decide +kernel
theorem dX10_gathers_130 : decode cX10_gathers 130 = .ok (.iload 6, 2) := by decide +kernel
theorem dX10_gathers_132 : decode cX10_gathers 132 = .ok (.iload 10, 2) := by decide +kernel
theorem dX10_gathers_134 : decode cX10_gathers 134 = .ok (.imul, 1) := by decide +kernel
theorem dX10_gathers_135 : decode cX10_gathers 135 = .ok (.iconst 4, 1) := by decide +kernel
theorem dX10_gathers_136 : decode cX10_gathers 136 = .ok (.iload_n 2, 1) := by decide +kernel
theorem dX10_gathers_137 : decode cX10_gathers 137 = .ok (.idiv, 1) := by decide +kernel
theorem dX10_gathers_138 : decode cX10_gathers 138 = .ok (.imul, 1) := by decide +kernel
theorem dX10_gathers_139 : decode cX10_gathers 139 = .ok (.iconst 4, 1) := by decide +kernel
theorem dX10_gathers_140 : decode cX10_gathers 140 = .ok (.irem, 1) := by decide +kernel
theorem dX10_gathers_141 : decode cX10_gathers 141 = .ok (.if_icmp .ge 22, 3) := by decide +kernel
theorem dX10_gathers_144 : decode cX10_gathers 144 = .ok (.iload 12, 2) := by decide +kernel
theorem dX10_gathers_146 : decode cX10_gathers 146 = .ok (.istore 14, 2) := by decide +kernel
theorem dX10_gathers_148 : decode cX10_gathers 148 = .ok (.iload 11, 2) := by decide +kernel
theorem dX10_gathers_150 : decode cX10_gathers 150 = .ok (.ineg, 1) := by decide +kernel
theorem dX10_gathers_151 : decode cX10_gathers 151 = .ok (.istore 12, 2) := by decide +kernel
theorem dX10_gathers_153 : decode cX10_gathers 153 = .ok (.iload 14, 2) := by decide +kernel
theorem dX10_gathers_155 : decode cX10_gathers 155 = .ok (.istore 11, 2) := by decide +kernel
theorem dX10_gathers_157 : decode cX10_gathers 157 = .ok (.iinc 13 1, 3) := by decide +kernel
theorem dX10_gathers_160 : decode cX10_gathers 160 = .ok (.goto (-32), 3) := by decide +kernel
theorem dX10_gathers_163 : decode cX10_gathers 163 = .ok (.iload 8, 2) := by decide +kernel
theorem dX10_gathers_165 : decode cX10_gathers 165 = .ok (.iload 11, 2) := by decide +kernel
theorem dX10_gathers_167 : decode cX10_gathers 167 = .ok (.iadd, 1) := by decide +kernel
theorem dX10_gathers_168 : decode cX10_gathers 168 = .ok (.istore 8, 2) := by decide +kernel
theorem dX10_gathers_170 : decode cX10_gathers 170 = .ok (.iload 9, 2) := by decide +kernel
theorem dX10_gathers_172 : decode cX10_gathers 172 = .ok (.iload 12, 2) := by decide +kernel
theorem dX10_gathers_174 : decode cX10_gathers 174 = .ok (.iadd, 1) := by decide +kernel
theorem dX10_gathers_175 : decode cX10_gathers 175 = .ok (.istore 9, 2) := by decide +kernel
theorem dX10_gathers_177 : decode cX10_gathers 177 = .ok (.iinc 10 1, 3) := by decide +kernel
theorem dX10_gathers_180 : decode cX10_gathers 180 = .ok (.goto (-148), 3) := by decide +kernel
theorem dX10_gathers_183 : decode cX10_gathers 183 = .ok (.aload_n 0, 1) := by decide +kernel
theorem dX10_gathers_184 : decode cX10_gathers 184 = .ok (.getfield 169, 3) := by decide +kernel
theorem dX10_gathers_187 : decode cX10_gathers 187 = .ok (.iconst 1, 1) := by decide +kernel
theorem dX10_gathers_188 : decode cX10_gathers 188 = .ok (.if_icmp .ne 12, 3) := by decide +kernel
theorem dX10_gathers_191 : decode cX10_gathers 191 = .ok (.iload 6, 2) := by decide +kernel
theorem dX10_gathers_193 : decode cX10_gathers 193 = .ok (.ifCond .le 7, 3) := by decide +kernel
theorem dX10_gathers_196 : decode cX10_gathers 196 = .ok (.iconst 1, 1) := by decide +kernel
theorem dX10_gathers_197 : decode cX10_gathers 197 = .ok (.goto 4, 3) := by decide +kernel
theorem dX10_gathers_200 : decode cX10_gathers 200 = .ok (.iconst 0, 1) := by decide +kernel
theorem dX10_gathers_201 : decode cX10_gathers 201 = .ok (.istore 10, 2) := by decide +kernel
theorem dX10_gathers_203 : decode cX10_gathers 203 = .ok (.aload_n 0, 1) := by decide +kernel
theorem dX10_gathers_204 : decode cX10_gathers 204 = .ok (.getfield 42, 3) := by decide +kernel
theorem dX10_gathers_207 : decode cX10_gathers 207 = .ok (.iload_n 1, 1) := by decide +kernel
theorem dX10_gathers_208 : decode cX10_gathers 208 = .ok (.iload 10, 2) := by decide +kernel
theorem dX10_gathers_210 : decode cX10_gathers 210 = .ok (.ifCond .eq 23, 3) := by decide +kernel
theorem dX10_gathers_213 : decode cX10_gathers 213 = .ok (.aload_n 0, 1) := by decide +kernel
theorem dX10_gathers_214 : decode cX10_gathers 214 = .ok (.iload 8, 2) := by decide +kernel
theorem dX10_gathers_216 : decode cX10_gathers 216 = .ok (.iload 9, 2) := by decide +kernel
theorem dX10_gathers_218 : decode cX10_gathers 218 = .ok (.iload 6, 2) := by decide +kernel
theorem dX10_gathers_220 : decode cX10_gathers 220 = .ok (.iload 7, 2) := by decide +kernel
theorem dX10_gathers_222 : decode cX10_gathers 222 = .ok (.imul, 1) := by decide +kernel
theorem dX10_gathers_223 : decode cX10_gathers 223 = .ok (.iload 4, 2) := by decide +kernel
theorem dX10_gathers_225 : decode cX10_gathers 225 = .ok (.imul, 1) := by decide +kernel
theorem dX10_gathers_226 : decode cX10_gathers 226 = .ok (.invokevirtual 244, 3) := by decide +kernel
theorem dX10_gathers_229 : decode cX10_gathers 229 = .ok (.l2i, 1) := by decide +kernel
theorem dX10_gathers_230 : decode cX10_gathers 230 = .ok (.goto 5, 3) := by decide +kernel
theorem dX10_gathers_233 : decode cX10_gathers 233 = .ok (.iload 8, 2) := by decide +kernel
theorem dX10_gathers_235 : decode cX10_gathers 235 = .ok (.iastore, 1) := by decide +kernel
theorem dX10_gathers_236 : decode cX10_gathers 236 = .ok (.aload_n 0, 1) := by decide +kernel
theorem dX10_gathers_237 : decode cX10_gathers 237 = .ok (.getfield 45, 3) := by decide +kernel
theorem dX10_gathers_240 : decode cX10_gathers 240 = .ok (.iload_n 1, 1) := by decide +kernel
theorem dX10_gathers_241 : decode cX10_gathers 241 = .ok (.iload 10, 2) := by decide +kernel
theorem dX10_gathers_243 : decode cX10_gathers 243 = .ok (.ifCond .eq 23, 3) := by decide +kernel
theorem dX10_gathers_246 : decode cX10_gathers 246 = .ok (.aload_n 0, 1) := by decide +kernel
theorem dX10_gathers_247 : decode cX10_gathers 247 = .ok (.iload 8, 2) := by decide +kernel
theorem dX10_gathers_249 : decode cX10_gathers 249 = .ok (.iload 9, 2) := by decide +kernel
theorem dX10_gathers_251 : decode cX10_gathers 251 = .ok (.iload 6, 2) := by decide +kernel
theorem dX10_gathers_253 : decode cX10_gathers 253 = .ok (.iload 7, 2) := by decide +kernel
theorem dX10_gathers_255 : decode cX10_gathers 255 = .ok (.imul, 1) := by decide +kernel
theorem dX10_gathers_256 : decode cX10_gathers 256 = .ok (.iload 4, 2) := by decide +kernel
theorem dX10_gathers_258 : decode cX10_gathers 258 = .ok (.imul, 1) := by decide +kernel
theorem dX10_gathers_259 : decode cX10_gathers 259 = .ok (.invokevirtual 248, 3) := by decide +kernel
theorem dX10_gathers_262 : decode cX10_gathers 262 = .ok (.l2i, 1) := by decide +kernel
theorem dX10_gathers_263 : decode cX10_gathers 263 = .ok (.goto 5, 3) := by decide +kernel
theorem dX10_gathers_266 : decode cX10_gathers 266 = .ok (.iload 9, 2) := by decide +kernel
theorem dX10_gathers_268 : decode cX10_gathers 268 = .ok (.iastore, 1) := by decide +kernel
theorem dX10_gathers_269 : decode cX10_gathers 269 = .ok (.return_, 1) := by decide +kernel
set_option maxRecDepth 20000 in
theorem ggX10_wings_X10_radixAt : GoodIn wsX10_wings wsX10_radixAt := goodIn_r _ [6, 1, 7, 8, 9, 10, 5, 11, 12, 13, 14, 15, 16, 68, 69, 70, 71, 72, 73, 74, 75, 76, 77, 78, 79, 80, 81, 82, 83, 84, 85, 86, 87, 88, 89, 90, 91, 92, 93, 94, 95, 96, 97, 98, 99, 100, 101, 102, 103, 104] (by decide +kernel) (by decide +kernel)
set_option maxRecDepth 20000 in
theorem gX10_wings_X10_radixAt : GoodIn wsX10_wings (wsV RX10 219 RX10 yX10_radixAt wsX10_radixAt) := goodIn_app (goodIn_of _ (by decide +kernel)) ggX10_wings_X10_radixAt
set_option maxRecDepth 20000 in
theorem ggX10_wings_X10_size : GoodIn wsX10_wings wsX10_size := goodIn_r _ [20, 21, 68, 69, 70, 71, 72, 73, 74, 75, 76, 77, 78, 79, 80, 81, 82, 83, 84, 85, 86, 87, 88, 89, 90, 91, 92, 93, 94, 95, 96, 97, 98, 99, 100, 101, 102, 103, 104] (by decide +kernel) (by decide +kernel)
set_option maxRecDepth 20000 in
theorem gX10_wings_X10_size : GoodIn wsX10_wings (wsV RX10 196 RX10 yX10_size wsX10_size) := goodIn_app (goodIn_of _ (by decide +kernel)) ggX10_wings_X10_size
set_option maxRecDepth 20000 in
theorem ggX10_wings_X10_gathers : GoodIn wsX10_wings wsX10_gathers := goodIn_r _ [25, 1, 26, 27, 28, 29, 30, 5, 31, 32, 33, 34, 35, 36, 37, 38, 39, 40, 41, 17, 18, 19, 20, 21, 42, 43, 44, 45, 46, 47, 48, 49, 50, 51, 52, 53, 54, 55, 56, 57, 58, 59, 68, 69, 70, 71, 72, 73, 74, 75, 76, 77, 78, 79, 80, 81, 82, 83, 84, 85, 86, 87, 88, 89, 90, 91, 92, 93, 94, 95, 96, 97, 98, 99, 100, 101, 102, 103, 104] (by decide +kernel) (by decide +kernel)
set_option maxRecDepth 20000 in
theorem gX10_wings_X10_gathers : GoodIn wsX10_wings (wsV RX10 251 RX10 yX10_gathers wsX10_gathers) := goodIn_app (goodIn_of _ (by decide +kernel)) ggX10_wings_X10_gathers
set_option maxRecDepth 20000 in
theorem ggX10_wings_X10_laid : GoodIn wsX10_wings wsX10_laid := goodIn_r _ [63, 26, 27, 17, 18, 19, 5, 20, 21, 64, 65, 66, 67, 32, 33, 68, 69, 70, 71, 72, 73, 74, 75, 76, 77, 78, 79, 80, 81, 82, 83, 84, 85, 86, 87, 88, 89, 90, 91, 92, 93, 94, 95, 96, 97, 98, 99, 100, 101, 102, 103, 104] (by decide +kernel) (by decide +kernel)
set_option maxRecDepth 20000 in
theorem gX10_wings_X10_laid : GoodIn wsX10_wings (wsV RX10 234 RX10 yX10_laid wsX10_laid) := goodIn_app (goodIn_of _ (by decide +kernel)) ggX10_wings_X10_laid
theorem dX10_wings_0 : decode cX10_wings 0 = .ok (.aload_n 0, 1) := by decide +kernel
theorem dX10_wings_1 : decode cX10_wings 1 = .ok (.iload_n 1, 1) := by decide +kernel
theorem dX10_wings_2 : decode cX10_wings 2 = .ok (.invokevirtual 219, 3) := by decide +kernel
theorem dX10_wings_5 : decode cX10_wings 5 = .ok (.istore_n 2, 1) := by decide +kernel
theorem dX10_wings_6 : decode cX10_wings 6 = .ok (.iconst 1, 1) := by decide +kernel
theorem dX10_wings_7 : decode cX10_wings 7 = .ok (.istore_n 3, 1) := by decide +kernel
theorem dX10_wings_8 : decode cX10_wings 8 = .ok (.iconst 0, 1) := by decide +kernel
theorem dX10_wings_9 : decode cX10_wings 9 = .ok (.istore 4, 2) := by decide +kernel
theorem dX10_wings_11 : decode cX10_wings 11 = .ok (.iload 4, 2) := by decide +kernel
theorem dX10_wings_13 : decode cX10_wings 13 = .ok (.iload_n 1, 1) := by decide +kernel
theorem dX10_wings_14 : decode cX10_wings 14 = .ok (.if_icmp .ge 18, 3) := by decide +kernel
theorem dX10_wings_17 : decode cX10_wings 17 = .ok (.iload_n 3, 1) := by decide +kernel
theorem dX10_wings_18 : decode cX10_wings 18 = .ok (.aload_n 0, 1) := by decide +kernel
theorem dX10_wings_19 : decode cX10_wings 19 = .ok (.iload 4, 2) := by decide +kernel
theorem dX10_wings_21 : decode cX10_wings 21 = .ok (.invokevirtual 219, 3) := by decide +kernel
theorem dX10_wings_24 : decode cX10_wings 24 = .ok (.imul, 1) := by decide +kernel
theorem dX10_wings_25 : decode cX10_wings 25 = .ok (.istore_n 3, 1) := by decide +kernel
theorem dX10_wings_26 : decode cX10_wings 26 = .ok (.iinc 4 1, 3) := by decide +kernel
theorem dX10_wings_29 : decode cX10_wings 29 = .ok (.goto (-18), 3) := by decide +kernel
theorem dX10_wings_32 : decode cX10_wings 32 = .ok (.aload_n 0, 1) := by decide +kernel
theorem dX10_wings_33 : decode cX10_wings 33 = .ok (.getfield 169, 3) := by decide +kernel
theorem dX10_wings_36 : decode cX10_wings 36 = .ok (.iconst 1, 1) := by decide +kernel
theorem dX10_wings_37 : decode cX10_wings 37 = .ok (.if_icmp .ne 12, 3) := by decide +kernel
theorem dX10_wings_40 : decode cX10_wings 40 = .ok (.aload_n 0, 1) := by decide +kernel
theorem dX10_wings_41 : decode cX10_wings 41 = .ok (.invokevirtual 196, 3) := by decide +kernel
theorem dX10_wings_44 : decode cX10_wings 44 = .ok (.iload_n 3, 1) := by decide +kernel
theorem dX10_wings_45 : decode cX10_wings 45 = .ok (.iload_n 2, 1) := by decide +kernel
theorem dX10_wings_46 : decode cX10_wings 46 = .ok (.imul, 1) := by decide +kernel
theorem dX10_wings_47 : decode cX10_wings 47 = .ok (.idiv, 1) := by decide +kernel
theorem dX10_wings_48 : decode cX10_wings 48 = .ok (.istore_n 3, 1) := by decide +kernel
theorem dX10_wings_49 : decode cX10_wings 49 = .ok (.iconst 0, 1) := by decide +kernel
theorem dX10_wings_50 : decode cX10_wings 50 = .ok (.istore 4, 2) := by decide +kernel
theorem dX10_wings_52 : decode cX10_wings 52 = .ok (.iload 4, 2) := by decide +kernel
theorem dX10_wings_54 : decode cX10_wings 54 = .ok (.aload_n 0, 1) := by decide +kernel
theorem dX10_wings_55 : decode cX10_wings 55 = .ok (.invokevirtual 196, 3) := by decide +kernel
theorem dX10_wings_58 : decode cX10_wings 58 = .ok (.if_icmp .ge 25, 3) := by decide +kernel
theorem dX10_wings_61 : decode cX10_wings 61 = .ok (.aload_n 0, 1) := by decide +kernel
theorem dX10_wings_62 : decode cX10_wings 62 = .ok (.iload 4, 2) := by decide +kernel
theorem dX10_wings_64 : decode cX10_wings 64 = .ok (.iload_n 2, 1) := by decide +kernel
theorem dX10_wings_65 : decode cX10_wings 65 = .ok (.iload_n 3, 1) := by decide +kernel
theorem dX10_wings_66 : decode cX10_wings 66 = .ok (.aload_n 0, 1) := by decide +kernel
theorem dX10_wings_67 : decode cX10_wings 67 = .ok (.invokevirtual 196, 3) := by decide +kernel
theorem dX10_wings_70 : decode cX10_wings 70 = .ok (.iload_n 2, 1) := by decide +kernel
theorem dX10_wings_71 : decode cX10_wings 71 = .ok (.iload_n 3, 1) := by decide +kernel
theorem dX10_wings_72 : decode cX10_wings 72 = .ok (.imul, 1) := by decide +kernel
theorem dX10_wings_73 : decode cX10_wings 73 = .ok (.idiv, 1) := by decide +kernel
theorem dX10_wings_74 : decode cX10_wings 74 = .ok (.invokevirtual 251, 3) := by decide +kernel
theorem dX10_wings_77 : decode cX10_wings 77 = .ok (.iinc 4 1, 3) := by decide +kernel
theorem dX10_wings_80 : decode cX10_wings 80 = .ok (.goto (-28), 3) := by decide +kernel
theorem dX10_wings_83 : decode cX10_wings 83 = .ok (.aload_n 0, 1) := by decide +kernel
theorem dX10_wings_84 : decode cX10_wings 84 = .ok (.invokevirtual 234, 3) := by decide +kernel
theorem dX10_wings_87 : decode cX10_wings 87 = .ok (.return_, 1) := by decide +kernel
set_option maxRecDepth 20000 in
theorem ggX10_turnsOver_X10_of : GoodIn wsX10_turnsOver wsX10_of := goodIn_r _ [5, 6, 7, 12, 13, 14, 15, 16, 17, 18, 19, 20, 21, 22, 23, 24, 25, 26, 27, 28, 29, 30, 31, 32, 33, 34, 35, 36, 37, 38, 39, 40, 41, 42, 43, 44, 45, 46, 47, 48] (by decide +kernel) (by decide +kernel)
set_option maxRecDepth 20000 in
theorem gX10_turnsOver_X10_of : GoodIn wsX10_turnsOver (wsV RX10 187 RX10 yX10_of wsX10_of) := goodIn_app (goodIn_of _ (by decide +kernel)) ggX10_turnsOver_X10_of
set_option maxRecDepth 20000 in
theorem ggX10_turnsOver_X10_lay : GoodIn wsX10_turnsOver wsX10_lay := goodIn_r _ [11, 6, 7, 12, 13, 14, 15, 16, 17, 18, 19, 20, 21, 22, 23, 24, 25, 26, 27, 28, 29, 30, 31, 32, 33, 34, 35, 36, 37, 38, 39, 40, 41, 42, 43, 44, 45, 46, 47, 48] (by decide +kernel) (by decide +kernel)
set_option maxRecDepth 20000 in
theorem gX10_turnsOver_X10_lay : GoodIn wsX10_turnsOver (wsV RX10 118 RX10 yX10_lay wsX10_lay) := goodIn_app (goodIn_of _ (by decide +kernel)) ggX10_turnsOver_X10_lay
theorem dX10_turnsOver_0 : decode cX10_turnsOver 0 = .ok (.iconst 0, 1) := by decide +kernel
theorem dX10_turnsOver_1 : decode cX10_turnsOver 1 = .ok (.istore_n 1, 1) := by decide +kernel
theorem dX10_turnsOver_2 : decode cX10_turnsOver 2 = .ok (.iload_n 1, 1) := by decide +kernel
theorem dX10_turnsOver_3 : decode cX10_turnsOver 3 = .ok (.bipush 32, 2) := by decide +kernel
theorem dX10_turnsOver_5 : decode cX10_turnsOver 5 = .ok (.if_icmp .ge 26, 3) := by decide +kernel
theorem dX10_turnsOver_8 : decode cX10_turnsOver 8 = .ok (.aload_n 0, 1) := by decide +kernel
theorem dX10_turnsOver_9 : decode cX10_turnsOver 9 = .ok (.bipush 32, 2) := by decide +kernel
theorem dX10_turnsOver_11 : decode cX10_turnsOver 11 = .ok (.iload_n 1, 1) := by decide +kernel
theorem dX10_turnsOver_12 : decode cX10_turnsOver 12 = .ok (.iadd, 1) := by decide +kernel
theorem dX10_turnsOver_13 : decode cX10_turnsOver 13 = .ok (.aload_n 0, 1) := by decide +kernel
theorem dX10_turnsOver_14 : decode cX10_turnsOver 14 = .ok (.bipush 32, 2) := by decide +kernel
theorem dX10_turnsOver_16 : decode cX10_turnsOver 16 = .ok (.iload_n 1, 1) := by decide +kernel
theorem dX10_turnsOver_17 : decode cX10_turnsOver 17 = .ok (.iadd, 1) := by decide +kernel
theorem dX10_turnsOver_18 : decode cX10_turnsOver 18 = .ok (.invokevirtual 187, 3) := by decide +kernel
theorem dX10_turnsOver_21 : decode cX10_turnsOver 21 = .ok (.ineg, 1) := by decide +kernel
theorem dX10_turnsOver_22 : decode cX10_turnsOver 22 = .ok (.invokevirtual 118, 3) := by decide +kernel
theorem dX10_turnsOver_25 : decode cX10_turnsOver 25 = .ok (.iinc 1 1, 3) := by decide +kernel
theorem dX10_turnsOver_28 : decode cX10_turnsOver 28 = .ok (.goto (-26), 3) := by decide +kernel
theorem dX10_turnsOver_31 : decode cX10_turnsOver 31 = .ok (.return_, 1) := by decide +kernel
set_option maxRecDepth 20000 in
theorem ggX10_beats_X10_of : GoodIn wsX10_beats wsX10_of := goodIn_r _ [6, 7, 8, 101, 102, 103, 104, 105, 106, 107, 108, 109, 110, 111, 112, 113, 114, 115, 116, 117, 118, 119, 120, 121, 122, 123, 124, 125, 126, 127, 128, 129, 130, 131, 132, 133, 134, 135, 136, 137] (by decide +kernel) (by decide +kernel)
set_option maxRecDepth 20000 in
theorem gX10_beats_X10_of : GoodIn wsX10_beats (wsV RX10 187 RX10 yX10_of wsX10_of) := goodIn_app (goodIn_of _ (by decide +kernel)) ggX10_beats_X10_of
set_option maxRecDepth 20000 in
theorem ggX10_beats_X10_reverses : GoodIn wsX10_beats wsX10_reverses := goodIn_r _ [12, 13, 14, 15, 16, 17, 5, 18, 19, 20, 21, 22, 23, 24, 25, 26, 27, 28, 29, 30, 31, 32, 33, 34, 35, 36, 37, 1, 2, 3, 4, 6, 7, 8, 38, 39, 40, 41, 42, 43, 44, 45, 101, 102, 103, 104, 105, 106, 107, 108, 109, 110, 111, 112, 113, 114, 115, 116, 117, 118, 119, 120, 121, 122, 123, 124, 125, 126, 127, 128, 129, 130, 131, 132, 133, 134, 135, 136, 137] (by decide +kernel) (by decide +kernel)
set_option maxRecDepth 20000 in
theorem gX10_beats_X10_reverses : GoodIn wsX10_beats (wsV RX10 255 RX10 yX10_reverses wsX10_reverses) := goodIn_app (goodIn_of _ (by decide +kernel)) ggX10_beats_X10_reverses
set_option maxRecDepth 20000 in
theorem ggX10_beats_X10_radixAt : GoodIn wsX10_beats wsX10_radixAt := goodIn_r _ [37, 1, 28, 29, 30, 31, 5, 32, 33, 24, 25, 26, 27, 101, 102, 103, 104, 105, 106, 107, 108, 109, 110, 111, 112, 113, 114, 115, 116, 117, 118, 119, 120, 121, 122, 123, 124, 125, 126, 127, 128, 129, 130, 131, 132, 133, 134, 135, 136, 137] (by decide +kernel) (by decide +kernel)
set_option maxRecDepth 20000 in
theorem gX10_beats_X10_radixAt : GoodIn wsX10_beats (wsV RX10 219 RX10 yX10_radixAt wsX10_radixAt) := goodIn_app (goodIn_of _ (by decide +kernel)) ggX10_beats_X10_radixAt
set_option maxRecDepth 20000 in
theorem ggX10_beats_X10_halvedNow : GoodIn wsX10_beats wsX10_halvedNow := goodIn_r _ [49, 1, 50, 51, 52, 53, 54, 5, 55, 15, 16, 17, 18, 19, 56, 57, 58, 59, 2, 3, 4, 6, 7, 8, 60, 61, 62, 63, 64, 65, 66, 67, 42, 43, 44, 45, 101, 102, 103, 104, 105, 106, 107, 108, 109, 110, 111, 112, 113, 114, 115, 116, 117, 118, 119, 120, 121, 122, 123, 124, 125, 126, 127, 128, 129, 130, 131, 132, 133, 134, 135, 136, 137] (by decide +kernel) (by decide +kernel)
set_option maxRecDepth 20000 in
theorem gX10_beats_X10_halvedNow : GoodIn wsX10_beats (wsV RX10 258 RX10 yX10_halvedNow wsX10_halvedNow) := goodIn_app (goodIn_of _ (by decide +kernel)) ggX10_beats_X10_halvedNow
set_option maxRecDepth 20000 in
theorem ggX10_beats_X10_wings : GoodIn wsX10_beats wsX10_wings := goodIn_r _ [71, 1, 34, 35, 36, 5, 37, 28, 29, 30, 31, 32, 33, 24, 25, 26, 27, 15, 16, 17, 18, 19, 72, 73, 74, 75, 13, 14, 2, 3, 4, 6, 7, 8, 76, 77, 78, 79, 80, 81, 82, 83, 84, 85, 86, 87, 88, 89, 90, 91, 92, 63, 64, 65, 66, 67, 93, 94, 95, 96, 38, 39, 40, 41, 42, 43, 44, 45, 101, 102, 103, 104, 105, 106, 107, 108, 109, 110, 111, 112, 113, 114, 115, 116, 117, 118, 119, 120, 121, 122, 123, 124, 125, 126, 127, 128, 129, 130, 131, 132, 133, 134, 135, 136, 137] (by decide +kernel) (by decide +kernel)
set_option maxRecDepth 20000 in
theorem gX10_beats_X10_wings : GoodIn wsX10_beats (wsV RX10 261 RX10 yX10_wings wsX10_wings) := goodIn_app (goodIn_of _ (by decide +kernel)) ggX10_beats_X10_wings
set_option maxRecDepth 20000 in
theorem ggX10_beats_X10_stagesMany : GoodIn wsX10_beats wsX10_stagesMany := goodIn_r _ [27, 28, 29, 30, 31, 5, 32, 33, 101, 102, 103, 104, 105, 106, 107, 108, 109, 110, 111, 112, 113, 114, 115, 116, 117, 118, 119, 120, 121, 122, 123, 124, 125, 126, 127, 128, 129, 130, 131, 132, 133, 134, 135, 136, 137] (by decide +kernel) (by decide +kernel)
set_option maxRecDepth 20000 in
theorem gX10_beats_X10_stagesMany : GoodIn wsX10_beats (wsV RX10 216 RX10 yX10_stagesMany wsX10_stagesMany) := goodIn_app (goodIn_of _ (by decide +kernel)) ggX10_beats_X10_stagesMany
set_option maxRecDepth 20000 in
theorem ggX10_beats_X10_lay : GoodIn wsX10_beats wsX10_lay := goodIn_r _ [45, 7, 8, 101, 102, 103, 104, 105, 106, 107, 108, 109, 110, 111, 112, 113, 114, 115, 116, 117, 118, 119, 120, 121, 122, 123, 124, 125, 126, 127, 128, 129, 130, 131, 132, 133, 134, 135, 136, 137] (by decide +kernel) (by decide +kernel)
set_option maxRecDepth 20000 in
theorem gX10_beats_X10_lay : GoodIn wsX10_beats (wsV RX10 118 RX10 yX10_lay wsX10_lay) := goodIn_app (goodIn_of _ (by decide +kernel)) ggX10_beats_X10_lay
set_option maxRecDepth 20000 in
theorem ggX10_beats_X10_turnsOver : GoodIn wsX10_beats wsX10_turnsOver := goodIn_r _ [100, 2, 3, 4, 5, 6, 7, 8, 42, 43, 44, 45, 101, 102, 103, 104, 105, 106, 107, 108, 109, 110, 111, 112, 113, 114, 115, 116, 117, 118, 119, 120, 121, 122, 123, 124, 125, 126, 127, 128, 129, 130, 131, 132, 133, 134, 135, 136, 137] (by decide +kernel) (by decide +kernel)
set_option maxRecDepth 20000 in
theorem gX10_beats_X10_turnsOver : GoodIn wsX10_beats (wsV RX10 265 RX10 yX10_turnsOver wsX10_turnsOver) := goodIn_app (goodIn_of _ (by decide +kernel)) ggX10_beats_X10_turnsOver
set_option maxRecDepth 20000 in
theorem ggX10_beats_X10_powerOf : GoodIn wsX10_beats wsX10_powerOf := goodIn_r _ [32, 33, 101, 102, 103, 104, 105, 106, 107, 108, 109, 110, 111, 112, 113, 114, 115, 116, 117, 118, 119, 120, 121, 122, 123, 124, 125, 126, 127, 128, 129, 130, 131, 132, 133, 134, 135, 136, 137] (by decide +kernel) (by decide +kernel)
set_option maxRecDepth 20000 in
theorem gX10_beats_X10_powerOf : GoodIn wsX10_beats (wsV RX10 213 RX10 yX10_powerOf wsX10_powerOf) := goodIn_app (goodIn_of _ (by decide +kernel)) ggX10_beats_X10_powerOf
theorem dX10_beats_0 : decode cX10_beats 0 = .ok (.aload_n 0, 1) := by decide +kernel
theorem dX10_beats_1 : decode cX10_beats 1 = .ok (.sipush 129, 3) := by decide +kernel
theorem dX10_beats_4 : decode cX10_beats 4 = .ok (.invokevirtual 187, 3) := by decide +kernel
theorem dX10_beats_7 : decode cX10_beats 7 = .ok (.istore_n 1, 1) := by decide +kernel
theorem dX10_beats_8 : decode cX10_beats 8 = .ok (.aload_n 0, 1) := by decide +kernel
theorem dX10_beats_9 : decode cX10_beats 9 = .ok (.getfield 169, 3) := by decide +kernel
theorem dX10_beats_12 : decode cX10_beats 12 = .ok (.ifCond .ne 11, 3) := by decide +kernel
theorem dX10_beats_15 : decode cX10_beats 15 = .ok (.iload_n 1, 1) := by decide +kernel
theorem dX10_beats_16 : decode cX10_beats 16 = .ok (.ifCond .ne 7, 3) := by decide +kernel
theorem dX10_beats_19 : decode cX10_beats 19 = .ok (.aload_n 0, 1) := by decide +kernel
theorem dX10_beats_20 : decode cX10_beats 20 = .ok (.invokevirtual 255, 3) := by decide +kernel
theorem dX10_beats_23 : decode cX10_beats 23 = .ok (.aload_n 0, 1) := by decide +kernel
theorem dX10_beats_24 : decode cX10_beats 24 = .ok (.aload_n 0, 1) := by decide +kernel
theorem dX10_beats_25 : decode cX10_beats 25 = .ok (.iload_n 1, 1) := by decide +kernel
theorem dX10_beats_26 : decode cX10_beats 26 = .ok (.invokevirtual 219, 3) := by decide +kernel
theorem dX10_beats_29 : decode cX10_beats 29 = .ok (.invokevirtual 258, 3) := by decide +kernel
theorem dX10_beats_32 : decode cX10_beats 32 = .ok (.istore_n 2, 1) := by decide +kernel
theorem dX10_beats_33 : decode cX10_beats 33 = .ok (.aload_n 0, 1) := by decide +kernel
theorem dX10_beats_34 : decode cX10_beats 34 = .ok (.iload_n 1, 1) := by decide +kernel
theorem dX10_beats_35 : decode cX10_beats 35 = .ok (.invokevirtual 261, 3) := by decide +kernel
theorem dX10_beats_38 : decode cX10_beats 38 = .ok (.iload_n 1, 1) := by decide +kernel
theorem dX10_beats_39 : decode cX10_beats 39 = .ok (.aload_n 0, 1) := by decide +kernel
theorem dX10_beats_40 : decode cX10_beats 40 = .ok (.invokevirtual 216, 3) := by decide +kernel
theorem dX10_beats_43 : decode cX10_beats 43 = .ok (.iconst 1, 1) := by decide +kernel
theorem dX10_beats_44 : decode cX10_beats 44 = .ok (.isub, 1) := by decide +kernel
theorem dX10_beats_45 : decode cX10_beats 45 = .ok (.if_icmp .ne 7, 3) := by decide +kernel
theorem dX10_beats_48 : decode cX10_beats 48 = .ok (.iconst 1, 1) := by decide +kernel
theorem dX10_beats_49 : decode cX10_beats 49 = .ok (.goto 4, 3) := by decide +kernel
theorem dX10_beats_52 : decode cX10_beats 52 = .ok (.iconst 0, 1) := by decide +kernel
theorem dX10_beats_53 : decode cX10_beats 53 = .ok (.istore_n 3, 1) := by decide +kernel
theorem dX10_beats_54 : decode cX10_beats 54 = .ok (.aload_n 0, 1) := by decide +kernel
theorem dX10_beats_55 : decode cX10_beats 55 = .ok (.getfield 169, 3) := by decide +kernel
theorem dX10_beats_58 : decode cX10_beats 58 = .ok (.iconst 1, 1) := by decide +kernel
theorem dX10_beats_59 : decode cX10_beats 59 = .ok (.if_icmp .ne 11, 3) := by decide +kernel
theorem dX10_beats_62 : decode cX10_beats 62 = .ok (.iload_n 3, 1) := by decide +kernel
theorem dX10_beats_63 : decode cX10_beats 63 = .ok (.ifCond .eq 7, 3) := by decide +kernel
theorem dX10_beats_66 : decode cX10_beats 66 = .ok (.aload_n 0, 1) := by decide +kernel
theorem dX10_beats_67 : decode cX10_beats 67 = .ok (.invokevirtual 255, 3) := by decide +kernel
theorem dX10_beats_70 : decode cX10_beats 70 = .ok (.aload_n 0, 1) := by decide +kernel
theorem dX10_beats_71 : decode cX10_beats 71 = .ok (.sipush 131, 3) := by decide +kernel
theorem dX10_beats_74 : decode cX10_beats 74 = .ok (.iload_n 1, 1) := by decide +kernel
theorem dX10_beats_75 : decode cX10_beats 75 = .ok (.iadd, 1) := by decide +kernel
theorem dX10_beats_76 : decode cX10_beats 76 = .ok (.iload_n 2, 1) := by decide +kernel
theorem dX10_beats_77 : decode cX10_beats 77 = .ok (.invokevirtual 118, 3) := by decide +kernel
theorem dX10_beats_80 : decode cX10_beats 80 = .ok (.aload_n 0, 1) := by decide +kernel
theorem dX10_beats_81 : decode cX10_beats 81 = .ok (.sipush 128, 3) := by decide +kernel
theorem dX10_beats_84 : decode cX10_beats 84 = .ok (.aload_n 0, 1) := by decide +kernel
theorem dX10_beats_85 : decode cX10_beats 85 = .ok (.sipush 128, 3) := by decide +kernel
theorem dX10_beats_88 : decode cX10_beats 88 = .ok (.invokevirtual 187, 3) := by decide +kernel
theorem dX10_beats_91 : decode cX10_beats 91 = .ok (.iload_n 2, 1) := by decide +kernel
theorem dX10_beats_92 : decode cX10_beats 92 = .ok (.iadd, 1) := by decide +kernel
theorem dX10_beats_93 : decode cX10_beats 93 = .ok (.invokevirtual 118, 3) := by decide +kernel
theorem dX10_beats_96 : decode cX10_beats 96 = .ok (.aload_n 0, 1) := by decide +kernel
theorem dX10_beats_97 : decode cX10_beats 97 = .ok (.sipush 129, 3) := by decide +kernel
theorem dX10_beats_100 : decode cX10_beats 100 = .ok (.iload_n 1, 1) := by decide +kernel
theorem dX10_beats_101 : decode cX10_beats 101 = .ok (.iconst 1, 1) := by decide +kernel
theorem dX10_beats_102 : decode cX10_beats 102 = .ok (.iadd, 1) := by decide +kernel
theorem dX10_beats_103 : decode cX10_beats 103 = .ok (.invokevirtual 118, 3) := by decide +kernel
theorem dX10_beats_106 : decode cX10_beats 106 = .ok (.iload_n 3, 1) := by decide +kernel
theorem dX10_beats_107 : decode cX10_beats 107 = .ok (.ifCond .eq 37, 3) := by decide +kernel
theorem dX10_beats_110 : decode cX10_beats 110 = .ok (.aload_n 0, 1) := by decide +kernel
theorem dX10_beats_111 : decode cX10_beats 111 = .ok (.sipush 130, 3) := by decide +kernel
theorem dX10_beats_114 : decode cX10_beats 114 = .ok (.invokevirtual 187, 3) := by decide +kernel
theorem dX10_beats_117 : decode cX10_beats 117 = .ok (.iconst 1, 1) := by decide +kernel
theorem dX10_beats_118 : decode cX10_beats 118 = .ok (.if_icmp .ne 26, 3) := by decide +kernel
theorem dX10_beats_121 : decode cX10_beats 121 = .ok (.aload_n 0, 1) := by decide +kernel
theorem dX10_beats_122 : decode cX10_beats 122 = .ok (.invokevirtual 265, 3) := by decide +kernel
theorem dX10_beats_125 : decode cX10_beats 125 = .ok (.aload_n 0, 1) := by decide +kernel
theorem dX10_beats_126 : decode cX10_beats 126 = .ok (.sipush 128, 3) := by decide +kernel
theorem dX10_beats_129 : decode cX10_beats 129 = .ok (.aload_n 0, 1) := by decide +kernel
theorem dX10_beats_130 : decode cX10_beats 130 = .ok (.sipush 128, 3) := by decide +kernel
theorem dX10_beats_133 : decode cX10_beats 133 = .ok (.invokevirtual 187, 3) := by decide +kernel
theorem dX10_beats_136 : decode cX10_beats 136 = .ok (.aload_n 0, 1) := by decide +kernel
theorem dX10_beats_137 : decode cX10_beats 137 = .ok (.invokevirtual 213, 3) := by decide +kernel
theorem dX10_beats_140 : decode cX10_beats 140 = .ok (.isub, 1) := by decide +kernel
theorem dX10_beats_141 : decode cX10_beats 141 = .ok (.invokevirtual 118, 3) := by decide +kernel
theorem dX10_beats_144 : decode cX10_beats 144 = .ok (.iload_n 2, 1) := by decide +kernel
theorem dX10_beats_145 : decode cX10_beats 145 = .ok (.ireturn, 1) := by decide +kernel
set_option maxRecDepth 20000 in
theorem ggX10_isDone_X10_of : GoodIn wsX10_isDone wsX10_of := goodIn_r _ [5, 6, 7, 18, 19, 20, 21, 22, 23, 24, 25, 26, 27, 28, 29, 30, 31, 32, 33, 34, 35, 36, 37, 38, 39, 40, 41, 42, 43, 44, 45, 46, 47, 48, 49, 50, 51, 52, 53, 54] (by decide +kernel) (by decide +kernel)
set_option maxRecDepth 20000 in
theorem gX10_isDone_X10_of : GoodIn wsX10_isDone (wsV RX10 187 RX10 yX10_of wsX10_of) := goodIn_app (goodIn_of _ (by decide +kernel)) ggX10_isDone_X10_of
set_option maxRecDepth 20000 in
theorem ggX10_isDone_X10_stagesMany : GoodIn wsX10_isDone wsX10_stagesMany := goodIn_r _ [11, 12, 13, 14, 15, 4, 16, 17, 18, 19, 20, 21, 22, 23, 24, 25, 26, 27, 28, 29, 30, 31, 32, 33, 34, 35, 36, 37, 38, 39, 40, 41, 42, 43, 44, 45, 46, 47, 48, 49, 50, 51, 52, 53, 54] (by decide +kernel) (by decide +kernel)
set_option maxRecDepth 20000 in
theorem gX10_isDone_X10_stagesMany : GoodIn wsX10_isDone (wsV RX10 216 RX10 yX10_stagesMany wsX10_stagesMany) := goodIn_app (goodIn_of _ (by decide +kernel)) ggX10_isDone_X10_stagesMany
theorem dX10_isDone_0 : decode cX10_isDone 0 = .ok (.aload_n 0, 1) := by decide +kernel
theorem dX10_isDone_1 : decode cX10_isDone 1 = .ok (.sipush 129, 3) := by decide +kernel
theorem dX10_isDone_4 : decode cX10_isDone 4 = .ok (.invokevirtual 187, 3) := by decide +kernel
theorem dX10_isDone_7 : decode cX10_isDone 7 = .ok (.aload_n 0, 1) := by decide +kernel
theorem dX10_isDone_8 : decode cX10_isDone 8 = .ok (.invokevirtual 216, 3) := by decide +kernel
theorem dX10_isDone_11 : decode cX10_isDone 11 = .ok (.if_icmp .ne 7, 3) := by decide +kernel
theorem dX10_isDone_14 : decode cX10_isDone 14 = .ok (.iconst 1, 1) := by decide +kernel
theorem dX10_isDone_15 : decode cX10_isDone 15 = .ok (.goto 4, 3) := by decide +kernel
theorem dX10_isDone_18 : decode cX10_isDone 18 = .ok (.iconst 0, 1) := by decide +kernel
theorem dX10_isDone_19 : decode cX10_isDone 19 = .ok (.ireturn, 1) := by decide +kernel
set_option maxRecDepth 20000 in
theorem ggX10_isForward_X10_isDone : GoodIn wsX10_isForward wsX10_isDone := goodIn_r _ [5, 6, 7, 8, 4, 9, 10, 11, 12, 13, 14, 15, 16, 17, 18, 19, 20, 21, 22, 23, 24, 25, 26, 27, 28, 29, 30, 31, 32, 33, 34, 35, 36, 37, 38, 39, 40, 41, 42, 43, 44, 45, 46, 47, 48, 49, 50, 51, 52, 53, 54, 55, 56, 57, 58] (by decide +kernel) (by decide +kernel)
set_option maxRecDepth 20000 in
theorem gX10_isForward_X10_isDone : GoodIn wsX10_isForward (wsV RX10 268 RX10 yX10_isDone wsX10_isDone) := goodIn_app (goodIn_of _ (by decide +kernel)) ggX10_isForward_X10_isDone
set_option maxRecDepth 20000 in
theorem ggX10_isForward_X10_of : GoodIn wsX10_isForward wsX10_of := goodIn_r _ [9, 10, 11, 22, 23, 24, 25, 26, 27, 28, 29, 30, 31, 32, 33, 34, 35, 36, 37, 38, 39, 40, 41, 42, 43, 44, 45, 46, 47, 48, 49, 50, 51, 52, 53, 54, 55, 56, 57, 58] (by decide +kernel) (by decide +kernel)
set_option maxRecDepth 20000 in
theorem gX10_isForward_X10_of : GoodIn wsX10_isForward (wsV RX10 187 RX10 yX10_of wsX10_of) := goodIn_app (goodIn_of _ (by decide +kernel)) ggX10_isForward_X10_of
theorem dX10_isForward_0 : decode cX10_isForward 0 = .ok (.aload_n 0, 1) := by decide +kernel
theorem dX10_isForward_1 : decode cX10_isForward 1 = .ok (.invokevirtual 268, 3) := by decide +kernel
theorem dX10_isForward_4 : decode cX10_isForward 4 = .ok (.ifCond .eq 17, 3) := by decide +kernel
theorem dX10_isForward_7 : decode cX10_isForward 7 = .ok (.aload_n 0, 1) := by decide +kernel
theorem dX10_isForward_8 : decode cX10_isForward 8 = .ok (.sipush 130, 3) := by decide +kernel
theorem dX10_isForward_11 : decode cX10_isForward 11 = .ok (.invokevirtual 187, 3) := by decide +kernel
theorem dX10_isForward_14 : decode cX10_isForward 14 = .ok (.ifCond .ne 7, 3) := by decide +kernel
theorem dX10_isForward_17 : decode cX10_isForward 17 = .ok (.iconst 1, 1) := by decide +kernel
theorem dX10_isForward_18 : decode cX10_isForward 18 = .ok (.goto 4, 3) := by decide +kernel
theorem dX10_isForward_21 : decode cX10_isForward 21 = .ok (.iconst 0, 1) := by decide +kernel
theorem dX10_isForward_22 : decode cX10_isForward 22 = .ok (.ireturn, 1) := by decide +kernel
set_option maxRecDepth 20000 in
theorem ggX10_isFresh_X10_of : GoodIn wsX10_isFresh wsX10_of := goodIn_r _ [5, 6, 7, 8, 9, 10, 11, 12, 13, 14, 15, 16, 17, 18, 19, 20, 21, 22, 23, 24, 25, 26, 27, 28, 29, 30, 31, 32, 33, 34, 35, 36, 37, 38, 39, 40, 41, 42, 43, 44] (by decide +kernel) (by decide +kernel)
set_option maxRecDepth 20000 in
theorem gX10_isFresh_X10_of : GoodIn wsX10_isFresh (wsV RX10 187 RX10 yX10_of wsX10_of) := goodIn_app (goodIn_of _ (by decide +kernel)) ggX10_isFresh_X10_of
theorem dX10_isFresh_0 : decode cX10_isFresh 0 = .ok (.aload_n 0, 1) := by decide +kernel
theorem dX10_isFresh_1 : decode cX10_isFresh 1 = .ok (.sipush 129, 3) := by decide +kernel
theorem dX10_isFresh_4 : decode cX10_isFresh 4 = .ok (.invokevirtual 187, 3) := by decide +kernel
theorem dX10_isFresh_7 : decode cX10_isFresh 7 = .ok (.ifCond .ne 17, 3) := by decide +kernel
theorem dX10_isFresh_10 : decode cX10_isFresh 10 = .ok (.aload_n 0, 1) := by decide +kernel
theorem dX10_isFresh_11 : decode cX10_isFresh 11 = .ok (.sipush 130, 3) := by decide +kernel
theorem dX10_isFresh_14 : decode cX10_isFresh 14 = .ok (.invokevirtual 187, 3) := by decide +kernel
theorem dX10_isFresh_17 : decode cX10_isFresh 17 = .ok (.ifCond .ne 7, 3) := by decide +kernel
theorem dX10_isFresh_20 : decode cX10_isFresh 20 = .ok (.iconst 1, 1) := by decide +kernel
theorem dX10_isFresh_21 : decode cX10_isFresh 21 = .ok (.goto 4, 3) := by decide +kernel
theorem dX10_isFresh_24 : decode cX10_isFresh 24 = .ok (.iconst 0, 1) := by decide +kernel
theorem dX10_isFresh_25 : decode cX10_isFresh 25 = .ok (.ireturn, 1) := by decide +kernel
set_option maxRecDepth 20000 in
theorem ggX10_beatsAll_X10_isDone : GoodIn wsX10_beatsAll wsX10_isDone := goodIn_r _ [5, 6, 7, 8, 4, 9, 10, 11, 12, 13, 14, 15, 16, 17, 18, 19, 20, 21, 109, 110, 111, 112, 113, 114, 115, 116, 117, 118, 119, 120, 121, 122, 123, 124, 125, 126, 127, 128, 129, 130, 131, 132, 133, 134, 135, 136, 137, 138, 139, 140, 141, 142, 143, 144, 145] (by decide +kernel) (by decide +kernel)
set_option maxRecDepth 20000 in
theorem gX10_beatsAll_X10_isDone : GoodIn wsX10_beatsAll (wsV RX10 268 RX10 yX10_isDone wsX10_isDone) := goodIn_app (goodIn_of _ (by decide +kernel)) ggX10_beatsAll_X10_isDone
set_option maxRecDepth 20000 in
theorem ggX10_beatsAll_X10_beats : GoodIn wsX10_beatsAll wsX10_beats := goodIn_r _ [25, 26, 6, 7, 8, 4, 9, 10, 11, 27, 28, 29, 30, 31, 32, 33, 34, 35, 36, 37, 38, 39, 40, 41, 12, 13, 14, 15, 16, 17, 18, 19, 20, 21, 42, 43, 44, 45, 46, 47, 48, 49, 50, 51, 52, 53, 54, 55, 56, 57, 58, 59, 60, 61, 62, 63, 64, 65, 66, 67, 68, 69, 70, 71, 72, 73, 74, 75, 76, 77, 78, 79, 80, 81, 82, 83, 84, 85, 86, 87, 88, 89, 90, 91, 92, 93, 94, 95, 96, 97, 98, 99, 100, 101, 102, 103, 104, 105, 106, 107, 108, 109, 110, 111, 112, 113, 114, 115, 116, 117, 118, 119, 120, 121, 122, 123, 124, 125, 126, 127, 128, 129, 130, 131, 132, 133, 134, 135, 136, 137, 138, 139, 140, 141, 142, 143, 144, 145] (by decide +kernel) (by decide +kernel)
set_option maxRecDepth 20000 in
theorem gX10_beatsAll_X10_beats : GoodIn wsX10_beatsAll (wsV RX10 271 RX10 yX10_beats wsX10_beats) := goodIn_app (goodIn_of _ (by decide +kernel)) ggX10_beatsAll_X10_beats
theorem dX10_beatsAll_0 : decode cX10_beatsAll 0 = .ok (.aload_n 0, 1) := by decide +kernel
theorem dX10_beatsAll_1 : decode cX10_beatsAll 1 = .ok (.invokevirtual 268, 3) := by decide +kernel
theorem dX10_beatsAll_4 : decode cX10_beatsAll 4 = .ok (.ifCond .ne 11, 3) := by decide +kernel
theorem dX10_beatsAll_7 : decode cX10_beatsAll 7 = .ok (.aload_n 0, 1) := by decide +kernel
theorem dX10_beatsAll_8 : decode cX10_beatsAll 8 = .ok (.invokevirtual 271, 3) := by decide +kernel
theorem dX10_beatsAll_11 : decode cX10_beatsAll 11 = .ok (.pop, 1) := by decide +kernel
theorem dX10_beatsAll_12 : decode cX10_beatsAll 12 = .ok (.goto (-12), 3) := by decide +kernel
theorem dX10_beatsAll_15 : decode cX10_beatsAll 15 = .ok (.return_, 1) := by decide +kernel
set_option maxRecDepth 20000 in
theorem ggX10_goesBack_X10_turnsOver : GoodIn wsX10_goesBack wsX10_turnsOver := goodIn_r _ [5, 6, 7, 8, 4, 9, 10, 11, 12, 13, 14, 15, 20, 21, 22, 23, 24, 25, 26, 27, 28, 29, 30, 31, 32, 33, 34, 35, 36, 37, 38, 39, 40, 41, 42, 43, 44, 45, 46, 47, 48, 49, 50, 51, 52, 53, 54, 55, 56] (by decide +kernel) (by decide +kernel)
set_option maxRecDepth 20000 in
theorem gX10_goesBack_X10_turnsOver : GoodIn wsX10_goesBack (wsV RX10 265 RX10 yX10_turnsOver wsX10_turnsOver) := goodIn_app (goodIn_of _ (by decide +kernel)) ggX10_goesBack_X10_turnsOver
set_option maxRecDepth 20000 in
theorem ggX10_goesBack_X10_lay : GoodIn wsX10_goesBack wsX10_lay := goodIn_r _ [15, 10, 11, 20, 21, 22, 23, 24, 25, 26, 27, 28, 29, 30, 31, 32, 33, 34, 35, 36, 37, 38, 39, 40, 41, 42, 43, 44, 45, 46, 47, 48, 49, 50, 51, 52, 53, 54, 55, 56] (by decide +kernel) (by decide +kernel)
set_option maxRecDepth 20000 in
theorem gX10_goesBack_X10_lay : GoodIn wsX10_goesBack (wsV RX10 118 RX10 yX10_lay wsX10_lay) := goodIn_app (goodIn_of _ (by decide +kernel)) ggX10_goesBack_X10_lay
set_option maxRecDepth 20000 in
theorem ggX10_goesBack_X10_noneHalved : GoodIn wsX10_goesBack wsX10_noneHalved := goodIn_r _ [19, 12, 13, 14, 4, 15, 10, 11, 20, 21, 22, 23, 24, 25, 26, 27, 28, 29, 30, 31, 32, 33, 34, 35, 36, 37, 38, 39, 40, 41, 42, 43, 44, 45, 46, 47, 48, 49, 50, 51, 52, 53, 54, 55, 56] (by decide +kernel) (by decide +kernel)
set_option maxRecDepth 20000 in
theorem gX10_goesBack_X10_noneHalved : GoodIn wsX10_goesBack (wsV RX10 122 RX10 yX10_noneHalved wsX10_noneHalved) := goodIn_app (goodIn_of _ (by decide +kernel)) ggX10_goesBack_X10_noneHalved
theorem dX10_goesBack_0 : decode cX10_goesBack 0 = .ok (.aload_n 0, 1) := by decide +kernel
theorem dX10_goesBack_1 : decode cX10_goesBack 1 = .ok (.invokevirtual 265, 3) := by decide +kernel
theorem dX10_goesBack_4 : decode cX10_goesBack 4 = .ok (.aload_n 0, 1) := by decide +kernel
theorem dX10_goesBack_5 : decode cX10_goesBack 5 = .ok (.sipush 130, 3) := by decide +kernel
theorem dX10_goesBack_8 : decode cX10_goesBack 8 = .ok (.iconst 1, 1) := by decide +kernel
theorem dX10_goesBack_9 : decode cX10_goesBack 9 = .ok (.invokevirtual 118, 3) := by decide +kernel
theorem dX10_goesBack_12 : decode cX10_goesBack 12 = .ok (.aload_n 0, 1) := by decide +kernel
theorem dX10_goesBack_13 : decode cX10_goesBack 13 = .ok (.sipush 129, 3) := by decide +kernel
theorem dX10_goesBack_16 : decode cX10_goesBack 16 = .ok (.iconst 0, 1) := by decide +kernel
theorem dX10_goesBack_17 : decode cX10_goesBack 17 = .ok (.invokevirtual 118, 3) := by decide +kernel
theorem dX10_goesBack_20 : decode cX10_goesBack 20 = .ok (.aload_n 0, 1) := by decide +kernel
theorem dX10_goesBack_21 : decode cX10_goesBack 21 = .ok (.invokevirtual 122, 3) := by decide +kernel
theorem dX10_goesBack_24 : decode cX10_goesBack 24 = .ok (.return_, 1) := by decide +kernel
theorem dX10_fails_0 : decode cX10_fails 0 = .ok (.aload_n 0, 1) := by decide +kernel
theorem dX10_fails_1 : decode cX10_fails 1 = .ok (.iload_n 1, 1) := by decide +kernel
theorem dX10_fails_2 : decode cX10_fails 2 = .ok (.putfield 70, 3) := by decide +kernel
theorem dX10_fails_5 : decode cX10_fails 5 = .ok (.iconst 0, 1) := by decide +kernel
theorem dX10_fails_6 : decode cX10_fails 6 = .ok (.ireturn, 1) := by decide +kernel
set_option maxRecDepth 20000 in
theorem ggX10_point_X10_isPlace : GoodIn wsX10_point wsX10_isPlace := goodIn_r _ [6, 7, 8, 9, 5, 10, 11, 25, 26, 27, 28, 29, 30, 31, 32, 33, 34, 35, 36, 37, 38, 39, 40, 41, 42, 43, 44, 45, 46, 47, 48, 49, 50, 51, 52, 53, 54, 55, 56, 57, 58, 59, 60, 61] (by decide +kernel) (by decide +kernel)
set_option maxRecDepth 20000 in
theorem gX10_point_X10_isPlace : GoodIn wsX10_point (wsV RX10 203 RX10 yX10_isPlace wsX10_isPlace) := goodIn_app (goodIn_of _ (by decide +kernel)) ggX10_point_X10_isPlace
set_option maxRecDepth 20000 in
theorem ggX10_point_X10_fails : GoodIn wsX10_point wsX10_fails := goodIn_r _ [15, 1, 25, 26, 27, 28, 29, 30, 31, 32, 33, 34, 35, 36, 37, 38, 39, 40, 41, 42, 43, 44, 45, 46, 47, 48, 49, 50, 51, 52, 53, 54, 55, 56, 57, 58, 59, 60, 61] (by decide +kernel) (by decide +kernel)
set_option maxRecDepth 20000 in
theorem gX10_point_X10_fails : GoodIn wsX10_point (wsV RX10 274 RX10 yX10_fails wsX10_fails) := goodIn_app (goodIn_of _ (by decide +kernel)) ggX10_point_X10_fails
set_option maxRecDepth 20000 in
theorem ggX10_point_X10_isIn : GoodIn wsX10_point wsX10_isIn := goodIn_r _ [18] (by decide +kernel) (by decide +kernel)
set_option maxRecDepth 20000 in
theorem gX10_point_X10_isIn : GoodIn wsX10_point (va_wsS RX10 138 yX10_isIn wsX10_isIn) := goodIn_app (goodIn_of _ (by decide +kernel)) ggX10_point_X10_isIn
set_option maxRecDepth 20000 in
theorem ggX10_point_X10_of : GoodIn wsX10_point wsX10_of := goodIn_r _ [22, 23, 24, 25, 26, 27, 28, 29, 30, 31, 32, 33, 34, 35, 36, 37, 38, 39, 40, 41, 42, 43, 44, 45, 46, 47, 48, 49, 50, 51, 52, 53, 54, 55, 56, 57, 58, 59, 60, 61] (by decide +kernel) (by decide +kernel)
set_option maxRecDepth 20000 in
theorem gX10_point_X10_of : GoodIn wsX10_point (wsV RX10 187 RX10 yX10_of wsX10_of) := goodIn_app (goodIn_of _ (by decide +kernel)) ggX10_point_X10_of
theorem dX10_point_0 : decode cX10_point 0 = .ok (.aload_n 0, 1) := by decide +kernel
theorem dX10_point_1 : decode cX10_point 1 = .ok (.iconst 0, 1) := by decide +kernel
theorem dX10_point_2 : decode cX10_point 2 = .ok (.putfield 70, 3) := by decide +kernel
theorem dX10_point_5 : decode cX10_point 5 = .ok (.aload_n 0, 1) := by decide +kernel
theorem dX10_point_6 : decode cX10_point 6 = .ok (.iload_n 1, 1) := by decide +kernel
theorem dX10_point_7 : decode cX10_point 7 = .ok (.invokevirtual 203, 3) := by decide +kernel
theorem dX10_point_10 : decode cX10_point 10 = .ok (.ifCond .ne 9, 3) := by decide +kernel
theorem dX10_point_13 : decode cX10_point 13 = .ok (.aload_n 0, 1) := by decide +kernel
theorem dX10_point_14 : decode cX10_point 14 = .ok (.iconst 1, 1) := by decide +kernel
theorem dX10_point_15 : decode cX10_point 15 = .ok (.invokevirtual 274, 3) := by decide +kernel
theorem dX10_point_18 : decode cX10_point 18 = .ok (.ireturn, 1) := by decide +kernel
theorem dX10_point_19 : decode cX10_point 19 = .ok (.iload_n 2, 1) := by decide +kernel
theorem dX10_point_20 : decode cX10_point 20 = .ok (.iconst 0, 1) := by decide +kernel
theorem dX10_point_21 : decode cX10_point 21 = .ok (.iconst 3, 1) := by decide +kernel
theorem dX10_point_22 : decode cX10_point 22 = .ok (.invokestatic 138, 3) := by decide +kernel
theorem dX10_point_25 : decode cX10_point 25 = .ok (.ifCond .eq 16, 3) := by decide +kernel
theorem dX10_point_28 : decode cX10_point 28 = .ok (.aload_n 0, 1) := by decide +kernel
theorem dX10_point_29 : decode cX10_point 29 = .ok (.bipush 32, 2) := by decide +kernel
theorem dX10_point_31 : decode cX10_point 31 = .ok (.iload_n 2, 1) := by decide +kernel
theorem dX10_point_32 : decode cX10_point 32 = .ok (.imul, 1) := by decide +kernel
theorem dX10_point_33 : decode cX10_point 33 = .ok (.iload_n 1, 1) := by decide +kernel
theorem dX10_point_34 : decode cX10_point 34 = .ok (.iadd, 1) := by decide +kernel
theorem dX10_point_35 : decode cX10_point 35 = .ok (.invokevirtual 187, 3) := by decide +kernel
theorem dX10_point_38 : decode cX10_point 38 = .ok (.goto 8, 3) := by decide +kernel
theorem dX10_point_41 : decode cX10_point 41 = .ok (.aload_n 0, 1) := by decide +kernel
theorem dX10_point_42 : decode cX10_point 42 = .ok (.iconst 2, 1) := by decide +kernel
theorem dX10_point_43 : decode cX10_point 43 = .ok (.invokevirtual 274, 3) := by decide +kernel
theorem dX10_point_46 : decode cX10_point 46 = .ok (.ireturn, 1) := by decide +kernel
set_option maxRecDepth 20000 in
theorem ggX10_stage_X10_stagesMany : GoodIn wsX10_stage wsX10_stagesMany := goodIn_r _ [6, 7, 8, 9, 10, 5, 11, 12, 27, 28, 29, 30, 31, 32, 33, 34, 35, 36, 37, 38, 39, 40, 41, 42, 43, 44, 45, 46, 47, 48, 49, 50, 51, 52, 53, 54, 55, 56, 57, 58, 59, 60, 61, 62, 63] (by decide +kernel) (by decide +kernel)
set_option maxRecDepth 20000 in
theorem gX10_stage_X10_stagesMany : GoodIn wsX10_stage (wsV RX10 216 RX10 yX10_stagesMany wsX10_stagesMany) := goodIn_app (goodIn_of _ (by decide +kernel)) ggX10_stage_X10_stagesMany
set_option maxRecDepth 20000 in
theorem ggX10_stage_X10_isIn : GoodIn wsX10_stage wsX10_isIn := goodIn_r _ [15] (by decide +kernel) (by decide +kernel)
set_option maxRecDepth 20000 in
theorem gX10_stage_X10_isIn : GoodIn wsX10_stage (va_wsS RX10 138 yX10_isIn wsX10_isIn) := goodIn_app (goodIn_of _ (by decide +kernel)) ggX10_stage_X10_isIn
set_option maxRecDepth 20000 in
theorem ggX10_stage_X10_radixAt : GoodIn wsX10_stage wsX10_radixAt := goodIn_r _ [19, 20, 7, 8, 9, 10, 5, 11, 12, 2, 3, 4, 6, 27, 28, 29, 30, 31, 32, 33, 34, 35, 36, 37, 38, 39, 40, 41, 42, 43, 44, 45, 46, 47, 48, 49, 50, 51, 52, 53, 54, 55, 56, 57, 58, 59, 60, 61, 62, 63] (by decide +kernel) (by decide +kernel)
set_option maxRecDepth 20000 in
theorem gX10_stage_X10_radixAt : GoodIn wsX10_stage (wsV RX10 219 RX10 yX10_radixAt wsX10_radixAt) := goodIn_app (goodIn_of _ (by decide +kernel)) ggX10_stage_X10_radixAt
set_option maxRecDepth 20000 in
theorem ggX10_stage_X10_of : GoodIn wsX10_stage wsX10_of := goodIn_r _ [24, 25, 26, 27, 28, 29, 30, 31, 32, 33, 34, 35, 36, 37, 38, 39, 40, 41, 42, 43, 44, 45, 46, 47, 48, 49, 50, 51, 52, 53, 54, 55, 56, 57, 58, 59, 60, 61, 62, 63] (by decide +kernel) (by decide +kernel)
set_option maxRecDepth 20000 in
theorem gX10_stage_X10_of : GoodIn wsX10_stage (wsV RX10 187 RX10 yX10_of wsX10_of) := goodIn_app (goodIn_of _ (by decide +kernel)) ggX10_stage_X10_of
theorem dX10_stage_0 : decode cX10_stage 0 = .ok (.aload_n 0, 1) := by decide +kernel
theorem dX10_stage_1 : decode cX10_stage 1 = .ok (.iconst 0, 1) := by decide +kernel
theorem dX10_stage_2 : decode cX10_stage 2 = .ok (.putfield 70, 3) := by decide +kernel
theorem dX10_stage_5 : decode cX10_stage 5 = .ok (.iload_n 1, 1) := by decide +kernel
theorem dX10_stage_6 : decode cX10_stage 6 = .ok (.ifCond .lt 20, 3) := by decide +kernel
theorem dX10_stage_9 : decode cX10_stage 9 = .ok (.iload_n 1, 1) := by decide +kernel
theorem dX10_stage_10 : decode cX10_stage 10 = .ok (.aload_n 0, 1) := by decide +kernel
theorem dX10_stage_11 : decode cX10_stage 11 = .ok (.invokevirtual 216, 3) := by decide +kernel
theorem dX10_stage_14 : decode cX10_stage 14 = .ok (.if_icmp .ge 12, 3) := by decide +kernel
theorem dX10_stage_17 : decode cX10_stage 17 = .ok (.iload_n 2, 1) := by decide +kernel
theorem dX10_stage_18 : decode cX10_stage 18 = .ok (.iconst 0, 1) := by decide +kernel
theorem dX10_stage_19 : decode cX10_stage 19 = .ok (.iconst 1, 1) := by decide +kernel
theorem dX10_stage_20 : decode cX10_stage 20 = .ok (.invokestatic 138, 3) := by decide +kernel
theorem dX10_stage_23 : decode cX10_stage 23 = .ok (.ifCond .ne 5, 3) := by decide +kernel
theorem dX10_stage_26 : decode cX10_stage 26 = .ok (.iconst (-1), 1) := by decide +kernel
theorem dX10_stage_27 : decode cX10_stage 27 = .ok (.ireturn, 1) := by decide +kernel
theorem dX10_stage_28 : decode cX10_stage 28 = .ok (.iload_n 2, 1) := by decide +kernel
theorem dX10_stage_29 : decode cX10_stage 29 = .ok (.ifCond .ne 11, 3) := by decide +kernel
theorem dX10_stage_32 : decode cX10_stage 32 = .ok (.aload_n 0, 1) := by decide +kernel
theorem dX10_stage_33 : decode cX10_stage 33 = .ok (.iload_n 1, 1) := by decide +kernel
theorem dX10_stage_34 : decode cX10_stage 34 = .ok (.invokevirtual 219, 3) := by decide +kernel
theorem dX10_stage_37 : decode cX10_stage 37 = .ok (.goto 12, 3) := by decide +kernel
theorem dX10_stage_40 : decode cX10_stage 40 = .ok (.aload_n 0, 1) := by decide +kernel
theorem dX10_stage_41 : decode cX10_stage 41 = .ok (.sipush 131, 3) := by decide +kernel
theorem dX10_stage_44 : decode cX10_stage 44 = .ok (.iload_n 1, 1) := by decide +kernel
theorem dX10_stage_45 : decode cX10_stage 45 = .ok (.iadd, 1) := by decide +kernel
theorem dX10_stage_46 : decode cX10_stage 46 = .ok (.invokevirtual 187, 3) := by decide +kernel
theorem dX10_stage_49 : decode cX10_stage 49 = .ok (.ireturn, 1) := by decide +kernel
set_option maxRecDepth 20000 in
theorem ggX10_beat_X10_isDone : GoodIn wsX10_beat wsX10_isDone := goodIn_r _ [6, 7, 8, 9, 5, 10, 11, 12, 13, 14, 15, 16, 17, 18, 19, 20, 21, 22, 119, 120, 121, 122, 123, 124, 125, 126, 127, 128, 129, 130, 131, 132, 133, 134, 135, 136, 137, 138, 139, 140, 141, 142, 143, 144, 145, 146, 147, 148, 149, 150, 151, 152, 153, 154, 155] (by decide +kernel) (by decide +kernel)
set_option maxRecDepth 20000 in
theorem gX10_beat_X10_isDone : GoodIn wsX10_beat (wsV RX10 268 RX10 yX10_isDone wsX10_isDone) := goodIn_app (goodIn_of _ (by decide +kernel)) ggX10_beat_X10_isDone
set_option maxRecDepth 20000 in
theorem ggX10_beat_X10_canUndo : GoodIn wsX10_beat wsX10_canUndo := goodIn_r _ [26, 27, 28, 29, 30, 5, 31, 11, 119, 120, 121, 122, 123, 124, 125, 126, 127, 128, 129, 130, 131, 132, 133, 134, 135, 136, 137, 138, 139, 140, 141, 142, 143, 144, 145, 146, 147, 148, 149, 150, 151, 152, 153, 154, 155] (by decide +kernel) (by decide +kernel)
set_option maxRecDepth 20000 in
theorem gX10_beat_X10_canUndo : GoodIn wsX10_beat (wsV RX10 277 RX10 yX10_canUndo wsX10_canUndo) := goodIn_app (goodIn_of _ (by decide +kernel)) ggX10_beat_X10_canUndo
set_option maxRecDepth 20000 in
theorem ggX10_beat_X10_beats : GoodIn wsX10_beat wsX10_beats := goodIn_r _ [35, 36, 7, 8, 9, 5, 10, 11, 12, 37, 38, 39, 40, 41, 42, 43, 44, 45, 46, 47, 48, 49, 50, 51, 13, 14, 15, 16, 17, 18, 19, 20, 21, 22, 52, 53, 54, 55, 56, 57, 58, 59, 60, 61, 62, 63, 64, 65, 66, 67, 68, 69, 70, 71, 72, 73, 74, 75, 76, 77, 78, 79, 80, 81, 82, 83, 84, 85, 86, 87, 88, 89, 90, 91, 92, 93, 94, 95, 96, 97, 98, 99, 100, 101, 102, 103, 104, 105, 106, 107, 108, 109, 110, 111, 112, 113, 114, 115, 116, 117, 118, 119, 120, 121, 122, 123, 124, 125, 126, 127, 128, 129, 130, 131, 132, 133, 134, 135, 136, 137, 138, 139, 140, 141, 142, 143, 144, 145, 146, 147, 148, 149, 150, 151, 152, 153, 154, 155] (by decide +kernel) (by decide +kernel)
set_option maxRecDepth 20000 in
theorem gX10_beat_X10_beats : GoodIn wsX10_beat (wsV RX10 271 RX10 yX10_beats wsX10_beats) := goodIn_app (goodIn_of _ (by decide +kernel)) ggX10_beat_X10_beats
theorem dX10_beat_0 : decode cX10_beat 0 = .ok (.aload_n 0, 1) := by decide +kernel
theorem dX10_beat_1 : decode cX10_beat 1 = .ok (.iconst 0, 1) := by decide +kernel
theorem dX10_beat_2 : decode cX10_beat 2 = .ok (.putfield 70, 3) := by decide +kernel
theorem dX10_beat_5 : decode cX10_beat 5 = .ok (.aload_n 0, 1) := by decide +kernel
theorem dX10_beat_6 : decode cX10_beat 6 = .ok (.invokevirtual 268, 3) := by decide +kernel
theorem dX10_beat_9 : decode cX10_beat 9 = .ok (.ifCond .eq 6, 3) := by decide +kernel
theorem dX10_beat_12 : decode cX10_beat 12 = .ok (.bipush (-2), 2) := by decide +kernel
theorem dX10_beat_14 : decode cX10_beat 14 = .ok (.ireturn, 1) := by decide +kernel
theorem dX10_beat_15 : decode cX10_beat 15 = .ok (.aload_n 0, 1) := by decide +kernel
theorem dX10_beat_16 : decode cX10_beat 16 = .ok (.invokevirtual 277, 3) := by decide +kernel
theorem dX10_beat_19 : decode cX10_beat 19 = .ok (.aload_n 0, 1) := by decide +kernel
theorem dX10_beat_20 : decode cX10_beat 20 = .ok (.invokevirtual 271, 3) := by decide +kernel
theorem dX10_beat_23 : decode cX10_beat 23 = .ok (.ireturn, 1) := by decide +kernel
set_option maxRecDepth 20000 in
theorem ggX10_beatAll_X10_beatsAll : GoodIn wsX10_beatAll wsX10_beatsAll := goodIn_r _ [7, 8, 9, 10, 6, 11, 12, 13, 14, 15, 16, 17, 18, 19, 20, 21, 22, 23, 24, 25, 26, 27, 28, 29, 30, 31, 32, 33, 34, 35, 36, 37, 38, 39, 40, 41, 42, 43, 44, 45, 46, 47, 48, 49, 50, 51, 52, 53, 54, 55, 56, 57, 58, 59, 60, 61, 62, 63, 64, 65, 66, 67, 68, 69, 70, 71, 72, 73, 74, 75, 76, 77, 78, 79, 80, 81, 82, 83, 84, 85, 86, 87, 88, 89, 90, 91, 92, 93, 94, 95, 96, 97, 98, 99, 100, 101, 102, 103, 104, 105, 106, 107, 108, 109, 110, 111, 112, 113, 114, 115, 116, 117, 118, 119, 120, 121, 122, 123, 124, 125, 126, 127, 128, 129, 130, 131, 132, 133, 134, 135, 136, 137, 138, 139, 140, 141, 142, 143, 144, 145, 146, 147, 148, 149, 150, 151] (by decide +kernel) (by decide +kernel)
set_option maxRecDepth 20000 in
theorem gX10_beatAll_X10_beatsAll : GoodIn wsX10_beatAll (wsV RX10 280 RX10 yX10_beatsAll wsX10_beatsAll) := goodIn_app (goodIn_of _ (by decide +kernel)) ggX10_beatAll_X10_beatsAll
set_option maxRecDepth 20000 in
theorem ggX10_beatAll_X10_of : GoodIn wsX10_beatAll wsX10_of := goodIn_r _ [15, 16, 17, 115, 116, 117, 118, 119, 120, 121, 122, 123, 124, 125, 126, 127, 128, 129, 130, 131, 132, 133, 134, 135, 136, 137, 138, 139, 140, 141, 142, 143, 144, 145, 146, 147, 148, 149, 150, 151] (by decide +kernel) (by decide +kernel)
set_option maxRecDepth 20000 in
theorem gX10_beatAll_X10_of : GoodIn wsX10_beatAll (wsV RX10 187 RX10 yX10_of wsX10_of) := goodIn_app (goodIn_of _ (by decide +kernel)) ggX10_beatAll_X10_of
theorem dX10_beatAll_0 : decode cX10_beatAll 0 = .ok (.aload_n 0, 1) := by decide +kernel
theorem dX10_beatAll_1 : decode cX10_beatAll 1 = .ok (.iconst 0, 1) := by decide +kernel
theorem dX10_beatAll_2 : decode cX10_beatAll 2 = .ok (.putfield 70, 3) := by decide +kernel
theorem dX10_beatAll_5 : decode cX10_beatAll 5 = .ok (.aload_n 0, 1) := by decide +kernel
theorem dX10_beatAll_6 : decode cX10_beatAll 6 = .ok (.invokevirtual 280, 3) := by decide +kernel
theorem dX10_beatAll_9 : decode cX10_beatAll 9 = .ok (.aload_n 0, 1) := by decide +kernel
theorem dX10_beatAll_10 : decode cX10_beatAll 10 = .ok (.iconst 0, 1) := by decide +kernel
theorem dX10_beatAll_11 : decode cX10_beatAll 11 = .ok (.putfield 129, 3) := by decide +kernel
theorem dX10_beatAll_14 : decode cX10_beatAll 14 = .ok (.aload_n 0, 1) := by decide +kernel
theorem dX10_beatAll_15 : decode cX10_beatAll 15 = .ok (.sipush 128, 3) := by decide +kernel
theorem dX10_beatAll_18 : decode cX10_beatAll 18 = .ok (.invokevirtual 187, 3) := by decide +kernel
theorem dX10_beatAll_21 : decode cX10_beatAll 21 = .ok (.ireturn, 1) := by decide +kernel
set_option maxRecDepth 20000 in
theorem ggX10_turnBack_X10_isForward : GoodIn wsX10_turnBack wsX10_isForward := goodIn_r _ [6, 7, 8, 9, 5, 10, 11, 12, 13, 14, 15, 16, 17, 18, 19, 20, 21, 22, 23, 24, 25, 26, 52, 53, 54, 55, 56, 57, 58, 59, 60, 61, 62, 63, 64, 65, 66, 67, 68, 69, 70, 71, 72, 73, 74, 75, 76, 77, 78, 79, 80, 81, 82, 83, 84, 85, 86, 87, 88] (by decide +kernel) (by decide +kernel)
set_option maxRecDepth 20000 in
theorem gX10_turnBack_X10_isForward : GoodIn wsX10_turnBack (wsV RX10 283 RX10 yX10_isForward wsX10_isForward) := goodIn_app (goodIn_of _ (by decide +kernel)) ggX10_turnBack_X10_isForward
set_option maxRecDepth 20000 in
theorem ggX10_turnBack_X10_canUndo : GoodIn wsX10_turnBack wsX10_canUndo := goodIn_r _ [30, 31, 32, 33, 34, 5, 35, 15, 52, 53, 54, 55, 56, 57, 58, 59, 60, 61, 62, 63, 64, 65, 66, 67, 68, 69, 70, 71, 72, 73, 74, 75, 76, 77, 78, 79, 80, 81, 82, 83, 84, 85, 86, 87, 88] (by decide +kernel) (by decide +kernel)
set_option maxRecDepth 20000 in
theorem gX10_turnBack_X10_canUndo : GoodIn wsX10_turnBack (wsV RX10 277 RX10 yX10_canUndo wsX10_canUndo) := goodIn_app (goodIn_of _ (by decide +kernel)) ggX10_turnBack_X10_canUndo
set_option maxRecDepth 20000 in
theorem ggX10_turnBack_X10_goesBack : GoodIn wsX10_turnBack wsX10_goesBack := goodIn_r _ [39, 40, 41, 42, 5, 43, 11, 12, 13, 14, 15, 16, 44, 45, 46, 47, 48, 49, 50, 51, 52, 53, 54, 55, 56, 57, 58, 59, 60, 61, 62, 63, 64, 65, 66, 67, 68, 69, 70, 71, 72, 73, 74, 75, 76, 77, 78, 79, 80, 81, 82, 83, 84, 85, 86, 87, 88] (by decide +kernel) (by decide +kernel)
set_option maxRecDepth 20000 in
theorem gX10_turnBack_X10_goesBack : GoodIn wsX10_turnBack (wsV RX10 286 RX10 yX10_goesBack wsX10_goesBack) := goodIn_app (goodIn_of _ (by decide +kernel)) ggX10_turnBack_X10_goesBack
theorem dX10_turnBack_0 : decode cX10_turnBack 0 = .ok (.aload_n 0, 1) := by decide +kernel
theorem dX10_turnBack_1 : decode cX10_turnBack 1 = .ok (.iconst 0, 1) := by decide +kernel
theorem dX10_turnBack_2 : decode cX10_turnBack 2 = .ok (.putfield 70, 3) := by decide +kernel
theorem dX10_turnBack_5 : decode cX10_turnBack 5 = .ok (.aload_n 0, 1) := by decide +kernel
theorem dX10_turnBack_6 : decode cX10_turnBack 6 = .ok (.invokevirtual 283, 3) := by decide +kernel
theorem dX10_turnBack_9 : decode cX10_turnBack 9 = .ok (.ifCond .ne 5, 3) := by decide +kernel
theorem dX10_turnBack_12 : decode cX10_turnBack 12 = .ok (.iconst 0, 1) := by decide +kernel
theorem dX10_turnBack_13 : decode cX10_turnBack 13 = .ok (.ireturn, 1) := by decide +kernel
theorem dX10_turnBack_14 : decode cX10_turnBack 14 = .ok (.aload_n 0, 1) := by decide +kernel
theorem dX10_turnBack_15 : decode cX10_turnBack 15 = .ok (.invokevirtual 277, 3) := by decide +kernel
theorem dX10_turnBack_18 : decode cX10_turnBack 18 = .ok (.aload_n 0, 1) := by decide +kernel
theorem dX10_turnBack_19 : decode cX10_turnBack 19 = .ok (.invokevirtual 286, 3) := by decide +kernel
theorem dX10_turnBack_22 : decode cX10_turnBack 22 = .ok (.iconst 1, 1) := by decide +kernel
theorem dX10_turnBack_23 : decode cX10_turnBack 23 = .ok (.ireturn, 1) := by decide +kernel
set_option maxRecDepth 20000 in
theorem ggX10_ahead_X10_isIn : GoodIn wsX10_ahead wsX10_isIn := goodIn_r _ [5] (by decide +kernel) (by decide +kernel)
set_option maxRecDepth 20000 in
theorem gX10_ahead_X10_isIn : GoodIn wsX10_ahead (va_wsS RX10 138 yX10_isIn wsX10_isIn) := goodIn_app (goodIn_of _ (by decide +kernel)) ggX10_ahead_X10_isIn
set_option maxRecDepth 20000 in
theorem ggX10_ahead_X10_asNow : GoodIn wsX10_ahead wsX10_asNow := goodIn_r _ [9, 10, 11, 12, 13, 4, 14, 15, 132, 133, 134, 135, 136, 137, 138, 139, 140, 141, 142, 143, 144, 145, 146, 147, 148, 149, 150, 151, 152, 153, 154, 155, 156, 157, 158, 159, 160, 161, 162, 163, 164, 165, 166, 167, 168] (by decide +kernel) (by decide +kernel)
set_option maxRecDepth 20000 in
theorem gX10_ahead_X10_asNow : GoodIn wsX10_ahead (wsV RX10 184 RX10 yX10_asNow wsX10_asNow) := goodIn_app (goodIn_of _ (by decide +kernel)) ggX10_ahead_X10_asNow
set_option maxRecDepth 20000 in
theorem ggX10_ahead_X10_isDone : GoodIn wsX10_ahead wsX10_isDone := goodIn_r _ [19, 20, 21, 22, 4, 23, 15, 10, 24, 25, 26, 27, 28, 29, 30, 31, 32, 33, 132, 133, 134, 135, 136, 137, 138, 139, 140, 141, 142, 143, 144, 145, 146, 147, 148, 149, 150, 151, 152, 153, 154, 155, 156, 157, 158, 159, 160, 161, 162, 163, 164, 165, 166, 167, 168] (by decide +kernel) (by decide +kernel)
set_option maxRecDepth 20000 in
theorem gX10_ahead_X10_isDone : GoodIn wsX10_ahead (wsV RX10 268 RX10 yX10_isDone wsX10_isDone) := goodIn_app (goodIn_of _ (by decide +kernel)) ggX10_ahead_X10_isDone
set_option maxRecDepth 20000 in
theorem ggX10_ahead_X10_beats : GoodIn wsX10_ahead wsX10_beats := goodIn_r _ [37, 38, 20, 21, 22, 4, 23, 15, 10, 39, 40, 41, 42, 43, 44, 45, 46, 47, 48, 49, 50, 51, 52, 53, 24, 25, 26, 27, 28, 29, 30, 31, 32, 33, 54, 55, 56, 57, 58, 59, 60, 61, 62, 63, 64, 65, 66, 67, 68, 69, 70, 71, 72, 73, 74, 75, 76, 77, 78, 79, 80, 81, 82, 83, 84, 85, 86, 87, 88, 89, 90, 91, 92, 93, 94, 95, 96, 97, 98, 99, 100, 101, 102, 103, 104, 105, 106, 107, 108, 109, 110, 111, 112, 113, 114, 115, 116, 117, 118, 119, 120, 132, 133, 134, 135, 136, 137, 138, 139, 140, 141, 142, 143, 144, 145, 146, 147, 148, 149, 150, 151, 152, 153, 154, 155, 156, 157, 158, 159, 160, 161, 162, 163, 164, 165, 166, 167, 168] (by decide +kernel) (by decide +kernel)
set_option maxRecDepth 20000 in
theorem gX10_ahead_X10_beats : GoodIn wsX10_ahead (wsV RX10 271 RX10 yX10_beats wsX10_beats) := goodIn_app (goodIn_of _ (by decide +kernel)) ggX10_ahead_X10_beats
set_option maxRecDepth 20000 in
theorem ggX10_ahead_X10_of : GoodIn wsX10_ahead wsX10_of := goodIn_r _ [23, 15, 10, 132, 133, 134, 135, 136, 137, 138, 139, 140, 141, 142, 143, 144, 145, 146, 147, 148, 149, 150, 151, 152, 153, 154, 155, 156, 157, 158, 159, 160, 161, 162, 163, 164, 165, 166, 167, 168] (by decide +kernel) (by decide +kernel)
set_option maxRecDepth 20000 in
theorem gX10_ahead_X10_of : GoodIn wsX10_ahead (wsV RX10 187 RX10 yX10_of wsX10_of) := goodIn_app (goodIn_of _ (by decide +kernel)) ggX10_ahead_X10_of
set_option maxRecDepth 20000 in
theorem ggX10_ahead_X10_largestNow : GoodIn wsX10_ahead wsX10_largestNow := goodIn_r _ [75, 45, 46, 47, 4, 48, 49, 76, 77, 78, 79, 20, 21, 22, 23, 15, 10, 80, 81, 82, 132, 133, 134, 135, 136, 137, 138, 139, 140, 141, 142, 143, 144, 145, 146, 147, 148, 149, 150, 151, 152, 153, 154, 155, 156, 157, 158, 159, 160, 161, 162, 163, 164, 165, 166, 167, 168] (by decide +kernel) (by decide +kernel)
set_option maxRecDepth 20000 in
theorem gX10_ahead_X10_largestNow : GoodIn wsX10_ahead (wsV RX10 237 RX10 yX10_largestNow wsX10_largestNow) := goodIn_app (goodIn_of _ (by decide +kernel)) ggX10_ahead_X10_largestNow
set_option maxRecDepth 20000 in
theorem ggX10_ahead_X10_asItIs : GoodIn wsX10_ahead wsX10_asItIs := goodIn_r _ [124, 10, 125, 126, 127, 4, 128, 49, 28, 38, 87, 71, 70, 129, 130, 131, 132, 133, 134, 135, 136, 137, 138, 139, 140, 141, 142, 143, 144, 145, 146, 147, 148, 149, 150, 151, 152, 153, 154, 155, 156, 157, 158, 159, 160, 161, 162, 163, 164, 165, 166, 167, 168] (by decide +kernel) (by decide +kernel)
set_option maxRecDepth 20000 in
theorem gX10_ahead_X10_asItIs : GoodIn wsX10_ahead (wsV RX10 289 RX10 yX10_asItIs wsX10_asItIs) := goodIn_app (goodIn_of _ (by decide +kernel)) ggX10_ahead_X10_asItIs
theorem dX10_ahead_0 : decode cX10_ahead 0 = .ok (.aload_n 0, 1) := by decide +kernel
theorem dX10_ahead_1 : decode cX10_ahead 1 = .ok (.iconst 0, 1) := by decide +kernel
theorem dX10_ahead_2 : decode cX10_ahead 2 = .ok (.putfield 70, 3) := by decide +kernel
theorem dX10_ahead_5 : decode cX10_ahead 5 = .ok (.iload_n 1, 1) := by decide +kernel
theorem dX10_ahead_6 : decode cX10_ahead 6 = .ok (.iconst 0, 1) := by decide +kernel
theorem dX10_ahead_7 : decode cX10_ahead 7 = .ok (.iconst 5, 1) := by decide +kernel
theorem dX10_ahead_8 : decode cX10_ahead 8 = .ok (.invokestatic 138, 3) := by decide +kernel
theorem dX10_ahead_11 : decode cX10_ahead 11 = .ok (.ifCond .eq 12, 3) := by decide +kernel
theorem dX10_ahead_14 : decode cX10_ahead 14 = .ok (.iload_n 2, 1) := by decide +kernel
theorem dX10_ahead_15 : decode cX10_ahead 15 = .ok (.iconst 0, 1) := by decide +kernel
theorem dX10_ahead_16 : decode cX10_ahead 16 = .ok (.iconst 2, 1) := by decide +kernel
theorem dX10_ahead_17 : decode cX10_ahead 17 = .ok (.invokestatic 138, 3) := by decide +kernel
theorem dX10_ahead_20 : decode cX10_ahead 20 = .ok (.ifCond .ne 5, 3) := by decide +kernel
theorem dX10_ahead_23 : decode cX10_ahead 23 = .ok (.iconst (-1), 1) := by decide +kernel
theorem dX10_ahead_24 : decode cX10_ahead 24 = .ok (.ireturn, 1) := by decide +kernel
theorem dX10_ahead_25 : decode cX10_ahead 25 = .ok (.aload_n 0, 1) := by decide +kernel
theorem dX10_ahead_26 : decode cX10_ahead 26 = .ok (.invokevirtual 184, 3) := by decide +kernel
theorem dX10_ahead_29 : decode cX10_ahead 29 = .ok (.iconst 0, 1) := by decide +kernel
theorem dX10_ahead_30 : decode cX10_ahead 30 = .ok (.istore_n 3, 1) := by decide +kernel
theorem dX10_ahead_31 : decode cX10_ahead 31 = .ok (.iconst 0, 1) := by decide +kernel
theorem dX10_ahead_32 : decode cX10_ahead 32 = .ok (.istore 4, 2) := by decide +kernel
theorem dX10_ahead_34 : decode cX10_ahead 34 = .ok (.iload 4, 2) := by decide +kernel
theorem dX10_ahead_36 : decode cX10_ahead 36 = .ok (.iload_n 1, 1) := by decide +kernel
theorem dX10_ahead_37 : decode cX10_ahead 37 = .ok (.if_icmp .ge 23, 3) := by decide +kernel
theorem dX10_ahead_40 : decode cX10_ahead 40 = .ok (.aload_n 0, 1) := by decide +kernel
theorem dX10_ahead_41 : decode cX10_ahead 41 = .ok (.invokevirtual 268, 3) := by decide +kernel
theorem dX10_ahead_44 : decode cX10_ahead 44 = .ok (.ifCond .ne 16, 3) := by decide +kernel
theorem dX10_ahead_47 : decode cX10_ahead 47 = .ok (.iload_n 3, 1) := by decide +kernel
theorem dX10_ahead_48 : decode cX10_ahead 48 = .ok (.aload_n 0, 1) := by decide +kernel
theorem dX10_ahead_49 : decode cX10_ahead 49 = .ok (.invokevirtual 271, 3) := by decide +kernel
theorem dX10_ahead_52 : decode cX10_ahead 52 = .ok (.iadd, 1) := by decide +kernel
theorem dX10_ahead_53 : decode cX10_ahead 53 = .ok (.istore_n 3, 1) := by decide +kernel
theorem dX10_ahead_54 : decode cX10_ahead 54 = .ok (.iinc 4 1, 3) := by decide +kernel
theorem dX10_ahead_57 : decode cX10_ahead 57 = .ok (.goto (-23), 3) := by decide +kernel
theorem dX10_ahead_60 : decode cX10_ahead 60 = .ok (.iload_n 2, 1) := by decide +kernel
theorem dX10_ahead_61 : decode cX10_ahead 61 = .ok (.ifCond .ne 13, 3) := by decide +kernel
theorem dX10_ahead_64 : decode cX10_ahead 64 = .ok (.aload_n 0, 1) := by decide +kernel
theorem dX10_ahead_65 : decode cX10_ahead 65 = .ok (.sipush 128, 3) := by decide +kernel
theorem dX10_ahead_68 : decode cX10_ahead 68 = .ok (.invokevirtual 187, 3) := by decide +kernel
theorem dX10_ahead_71 : decode cX10_ahead 71 = .ok (.goto 16, 3) := by decide +kernel
theorem dX10_ahead_74 : decode cX10_ahead 74 = .ok (.iload_n 2, 1) := by decide +kernel
theorem dX10_ahead_75 : decode cX10_ahead 75 = .ok (.iconst 1, 1) := by decide +kernel
theorem dX10_ahead_76 : decode cX10_ahead 76 = .ok (.if_icmp .ne 10, 3) := by decide +kernel
theorem dX10_ahead_79 : decode cX10_ahead 79 = .ok (.aload_n 0, 1) := by decide +kernel
theorem dX10_ahead_80 : decode cX10_ahead 80 = .ok (.invokevirtual 237, 3) := by decide +kernel
theorem dX10_ahead_83 : decode cX10_ahead 83 = .ok (.goto 4, 3) := by decide +kernel
theorem dX10_ahead_86 : decode cX10_ahead 86 = .ok (.iload_n 3, 1) := by decide +kernel
theorem dX10_ahead_87 : decode cX10_ahead 87 = .ok (.istore 4, 2) := by decide +kernel
theorem dX10_ahead_89 : decode cX10_ahead 89 = .ok (.aload_n 0, 1) := by decide +kernel
theorem dX10_ahead_90 : decode cX10_ahead 90 = .ok (.invokevirtual 289, 3) := by decide +kernel
theorem dX10_ahead_93 : decode cX10_ahead 93 = .ok (.iload 4, 2) := by decide +kernel
theorem dX10_ahead_95 : decode cX10_ahead 95 = .ok (.ireturn, 1) := by decide +kernel
theorem dX10_isValue_0 : decode cX10_isValue 0 = .ok (.iload_n 1, 1) := by decide +kernel
theorem dX10_isValue_1 : decode cX10_isValue 1 = .ok (.aload_n 0, 1) := by decide +kernel
theorem dX10_isValue_2 : decode cX10_isValue 2 = .ok (.getfield 175, 3) := by decide +kernel
theorem dX10_isValue_5 : decode cX10_isValue 5 = .ok (.ineg, 1) := by decide +kernel
theorem dX10_isValue_6 : decode cX10_isValue 6 = .ok (.if_icmp .lt 15, 3) := by decide +kernel
theorem dX10_isValue_9 : decode cX10_isValue 9 = .ok (.iload_n 1, 1) := by decide +kernel
theorem dX10_isValue_10 : decode cX10_isValue 10 = .ok (.aload_n 0, 1) := by decide +kernel
theorem dX10_isValue_11 : decode cX10_isValue 11 = .ok (.getfield 175, 3) := by decide +kernel
theorem dX10_isValue_14 : decode cX10_isValue 14 = .ok (.if_icmp .gt 7, 3) := by decide +kernel
theorem dX10_isValue_17 : decode cX10_isValue 17 = .ok (.iconst 1, 1) := by decide +kernel
theorem dX10_isValue_18 : decode cX10_isValue 18 = .ok (.goto 4, 3) := by decide +kernel
theorem dX10_isValue_21 : decode cX10_isValue 21 = .ok (.iconst 0, 1) := by decide +kernel
theorem dX10_isValue_22 : decode cX10_isValue 22 = .ok (.ireturn, 1) := by decide +kernel
set_option maxRecDepth 20000 in
theorem ggX10_set_X10_isPlace : GoodIn wsX10_set wsX10_isPlace := goodIn_r _ [6, 7, 8, 9, 5, 10, 11, 44, 45, 46, 47, 48, 49, 50, 51, 52, 53, 54, 55, 56, 57, 58, 59, 60, 61, 62, 63, 64, 65, 66, 67, 68, 69, 70, 71, 72, 73, 74, 75, 76, 77, 78, 79, 80] (by decide +kernel) (by decide +kernel)
set_option maxRecDepth 20000 in
theorem gX10_set_X10_isPlace : GoodIn wsX10_set (wsV RX10 203 RX10 yX10_isPlace wsX10_isPlace) := goodIn_app (goodIn_of _ (by decide +kernel)) ggX10_set_X10_isPlace
set_option maxRecDepth 20000 in
theorem ggX10_set_X10_isValue : GoodIn wsX10_set wsX10_isValue := goodIn_r _ [15, 16, 44, 45, 46, 47, 48, 49, 50, 51, 52, 53, 54, 55, 56, 57, 58, 59, 60, 61, 62, 63, 64, 65, 66, 67, 68, 69, 70, 71, 72, 73, 74, 75, 76, 77, 78, 79, 80] (by decide +kernel) (by decide +kernel)
set_option maxRecDepth 20000 in
theorem gX10_set_X10_isValue : GoodIn wsX10_set (wsV RX10 292 RX10 yX10_isValue wsX10_isValue) := goodIn_app (goodIn_of _ (by decide +kernel)) ggX10_set_X10_isValue
set_option maxRecDepth 20000 in
theorem ggX10_set_X10_isFresh : GoodIn wsX10_set wsX10_isFresh := goodIn_r _ [20, 21, 22, 23, 5, 24, 25, 26, 44, 45, 46, 47, 48, 49, 50, 51, 52, 53, 54, 55, 56, 57, 58, 59, 60, 61, 62, 63, 64, 65, 66, 67, 68, 69, 70, 71, 72, 73, 74, 75, 76, 77, 78, 79, 80] (by decide +kernel) (by decide +kernel)
set_option maxRecDepth 20000 in
theorem gX10_set_X10_isFresh : GoodIn wsX10_set (wsV RX10 295 RX10 yX10_isFresh wsX10_isFresh) := goodIn_app (goodIn_of _ (by decide +kernel)) ggX10_set_X10_isFresh
set_option maxRecDepth 20000 in
theorem ggX10_set_X10_canUndo : GoodIn wsX10_set wsX10_canUndo := goodIn_r _ [30, 31, 32, 33, 34, 5, 35, 25, 44, 45, 46, 47, 48, 49, 50, 51, 52, 53, 54, 55, 56, 57, 58, 59, 60, 61, 62, 63, 64, 65, 66, 67, 68, 69, 70, 71, 72, 73, 74, 75, 76, 77, 78, 79, 80] (by decide +kernel) (by decide +kernel)
set_option maxRecDepth 20000 in
theorem gX10_set_X10_canUndo : GoodIn wsX10_set (wsV RX10 277 RX10 yX10_canUndo wsX10_canUndo) := goodIn_app (goodIn_of _ (by decide +kernel)) ggX10_set_X10_canUndo
set_option maxRecDepth 20000 in
theorem ggX10_set_X10_lay : GoodIn wsX10_set wsX10_lay := goodIn_r _ [39, 25, 26, 44, 45, 46, 47, 48, 49, 50, 51, 52, 53, 54, 55, 56, 57, 58, 59, 60, 61, 62, 63, 64, 65, 66, 67, 68, 69, 70, 71, 72, 73, 74, 75, 76, 77, 78, 79, 80] (by decide +kernel) (by decide +kernel)
set_option maxRecDepth 20000 in
theorem gX10_set_X10_lay : GoodIn wsX10_set (wsV RX10 118 RX10 yX10_lay wsX10_lay) := goodIn_app (goodIn_of _ (by decide +kernel)) ggX10_set_X10_lay
set_option maxRecDepth 20000 in
theorem ggX10_set_X10_asTheyAre : GoodIn wsX10_set wsX10_asTheyAre := goodIn_r _ [43, 21, 22, 23, 5, 24, 25, 26, 36, 37, 38, 39, 44, 45, 46, 47, 48, 49, 50, 51, 52, 53, 54, 55, 56, 57, 58, 59, 60, 61, 62, 63, 64, 65, 66, 67, 68, 69, 70, 71, 72, 73, 74, 75, 76, 77, 78, 79, 80] (by decide +kernel) (by decide +kernel)
set_option maxRecDepth 20000 in
theorem gX10_set_X10_asTheyAre : GoodIn wsX10_set (wsV RX10 298 RX10 yX10_asTheyAre wsX10_asTheyAre) := goodIn_app (goodIn_of _ (by decide +kernel)) ggX10_set_X10_asTheyAre
theorem dX10_set_0 : decode cX10_set 0 = .ok (.aload_n 0, 1) := by decide +kernel
theorem dX10_set_1 : decode cX10_set 1 = .ok (.iconst 0, 1) := by decide +kernel
theorem dX10_set_2 : decode cX10_set 2 = .ok (.putfield 70, 3) := by decide +kernel
theorem dX10_set_5 : decode cX10_set 5 = .ok (.aload_n 0, 1) := by decide +kernel
theorem dX10_set_6 : decode cX10_set 6 = .ok (.iload_n 1, 1) := by decide +kernel
theorem dX10_set_7 : decode cX10_set 7 = .ok (.invokevirtual 203, 3) := by decide +kernel
theorem dX10_set_10 : decode cX10_set 10 = .ok (.ifCond .eq 26, 3) := by decide +kernel
theorem dX10_set_13 : decode cX10_set 13 = .ok (.aload_n 0, 1) := by decide +kernel
theorem dX10_set_14 : decode cX10_set 14 = .ok (.iload_n 2, 1) := by decide +kernel
theorem dX10_set_15 : decode cX10_set 15 = .ok (.invokevirtual 292, 3) := by decide +kernel
theorem dX10_set_18 : decode cX10_set 18 = .ok (.ifCond .eq 18, 3) := by decide +kernel
theorem dX10_set_21 : decode cX10_set 21 = .ok (.aload_n 0, 1) := by decide +kernel
theorem dX10_set_22 : decode cX10_set 22 = .ok (.iload_n 3, 1) := by decide +kernel
theorem dX10_set_23 : decode cX10_set 23 = .ok (.invokevirtual 292, 3) := by decide +kernel
theorem dX10_set_26 : decode cX10_set 26 = .ok (.ifCond .eq 10, 3) := by decide +kernel
theorem dX10_set_29 : decode cX10_set 29 = .ok (.aload_n 0, 1) := by decide +kernel
theorem dX10_set_30 : decode cX10_set 30 = .ok (.invokevirtual 295, 3) := by decide +kernel
theorem dX10_set_33 : decode cX10_set 33 = .ok (.ifCond .ne 5, 3) := by decide +kernel
theorem dX10_set_36 : decode cX10_set 36 = .ok (.iconst 0, 1) := by decide +kernel
theorem dX10_set_37 : decode cX10_set 37 = .ok (.ireturn, 1) := by decide +kernel
theorem dX10_set_38 : decode cX10_set 38 = .ok (.aload_n 0, 1) := by decide +kernel
theorem dX10_set_39 : decode cX10_set 39 = .ok (.invokevirtual 277, 3) := by decide +kernel
theorem dX10_set_42 : decode cX10_set 42 = .ok (.aload_n 0, 1) := by decide +kernel
theorem dX10_set_43 : decode cX10_set 43 = .ok (.iload_n 1, 1) := by decide +kernel
theorem dX10_set_44 : decode cX10_set 44 = .ok (.iload_n 2, 1) := by decide +kernel
theorem dX10_set_45 : decode cX10_set 45 = .ok (.invokevirtual 118, 3) := by decide +kernel
theorem dX10_set_48 : decode cX10_set 48 = .ok (.aload_n 0, 1) := by decide +kernel
theorem dX10_set_49 : decode cX10_set 49 = .ok (.bipush 32, 2) := by decide +kernel
theorem dX10_set_51 : decode cX10_set 51 = .ok (.iload_n 1, 1) := by decide +kernel
theorem dX10_set_52 : decode cX10_set 52 = .ok (.iadd, 1) := by decide +kernel
theorem dX10_set_53 : decode cX10_set 53 = .ok (.iload_n 3, 1) := by decide +kernel
theorem dX10_set_54 : decode cX10_set 54 = .ok (.invokevirtual 118, 3) := by decide +kernel
theorem dX10_set_57 : decode cX10_set 57 = .ok (.aload_n 0, 1) := by decide +kernel
theorem dX10_set_58 : decode cX10_set 58 = .ok (.invokevirtual 298, 3) := by decide +kernel
theorem dX10_set_61 : decode cX10_set 61 = .ok (.iconst 1, 1) := by decide +kernel
theorem dX10_set_62 : decode cX10_set 62 = .ok (.ireturn, 1) := by decide +kernel
set_option maxRecDepth 20000 in
theorem ggX10_asTheyAre_X10_of : GoodIn wsX10_asTheyAre wsX10_of := goodIn_r _ [5, 6, 7, 12, 13, 14, 15, 16, 17, 18, 19, 20, 21, 22, 23, 24, 25, 26, 27, 28, 29, 30, 31, 32, 33, 34, 35, 36, 37, 38, 39, 40, 41, 42, 43, 44, 45, 46, 47, 48] (by decide +kernel) (by decide +kernel)
set_option maxRecDepth 20000 in
theorem gX10_asTheyAre_X10_of : GoodIn wsX10_asTheyAre (wsV RX10 187 RX10 yX10_of wsX10_of) := goodIn_app (goodIn_of _ (by decide +kernel)) ggX10_asTheyAre_X10_of
set_option maxRecDepth 20000 in
theorem ggX10_asTheyAre_X10_lay : GoodIn wsX10_asTheyAre wsX10_lay := goodIn_r _ [11, 6, 7, 12, 13, 14, 15, 16, 17, 18, 19, 20, 21, 22, 23, 24, 25, 26, 27, 28, 29, 30, 31, 32, 33, 34, 35, 36, 37, 38, 39, 40, 41, 42, 43, 44, 45, 46, 47, 48] (by decide +kernel) (by decide +kernel)
set_option maxRecDepth 20000 in
theorem gX10_asTheyAre_X10_lay : GoodIn wsX10_asTheyAre (wsV RX10 118 RX10 yX10_lay wsX10_lay) := goodIn_app (goodIn_of _ (by decide +kernel)) ggX10_asTheyAre_X10_lay
theorem dX10_asTheyAre_0 : decode cX10_asTheyAre 0 = .ok (.iconst 0, 1) := by decide +kernel
theorem dX10_asTheyAre_1 : decode cX10_asTheyAre 1 = .ok (.istore_n 1, 1) := by decide +kernel
theorem dX10_asTheyAre_2 : decode cX10_asTheyAre 2 = .ok (.iload_n 1, 1) := by decide +kernel
theorem dX10_asTheyAre_3 : decode cX10_asTheyAre 3 = .ok (.bipush 64, 2) := by decide +kernel
theorem dX10_asTheyAre_5 : decode cX10_asTheyAre 5 = .ok (.if_icmp .ge 22, 3) := by decide +kernel
theorem dX10_asTheyAre_8 : decode cX10_asTheyAre 8 = .ok (.aload_n 0, 1) := by decide +kernel
theorem dX10_asTheyAre_9 : decode cX10_asTheyAre 9 = .ok (.bipush 64, 2) := by decide +kernel
theorem dX10_asTheyAre_11 : decode cX10_asTheyAre 11 = .ok (.iload_n 1, 1) := by decide +kernel
theorem dX10_asTheyAre_12 : decode cX10_asTheyAre 12 = .ok (.iadd, 1) := by decide +kernel
theorem dX10_asTheyAre_13 : decode cX10_asTheyAre 13 = .ok (.aload_n 0, 1) := by decide +kernel
theorem dX10_asTheyAre_14 : decode cX10_asTheyAre 14 = .ok (.iload_n 1, 1) := by decide +kernel
theorem dX10_asTheyAre_15 : decode cX10_asTheyAre 15 = .ok (.invokevirtual 187, 3) := by decide +kernel
theorem dX10_asTheyAre_18 : decode cX10_asTheyAre 18 = .ok (.invokevirtual 118, 3) := by decide +kernel
theorem dX10_asTheyAre_21 : decode cX10_asTheyAre 21 = .ok (.iinc 1 1, 3) := by decide +kernel
theorem dX10_asTheyAre_24 : decode cX10_asTheyAre 24 = .ok (.goto (-22), 3) := by decide +kernel
theorem dX10_asTheyAre_27 : decode cX10_asTheyAre 27 = .ok (.return_, 1) := by decide +kernel
set_option maxRecDepth 20000 in
theorem ggX10_taper_X10_isFresh : GoodIn wsX10_taper wsX10_isFresh := goodIn_r _ [7, 8, 9, 10, 6, 11, 12, 13, 50, 51, 52, 53, 54, 55, 56, 57, 58, 59, 60, 61, 62, 63, 64, 65, 66, 67, 68, 69, 70, 71, 72, 73, 74, 75, 76, 77, 78, 79, 80, 81, 82, 83, 84, 85, 86] (by decide +kernel) (by decide +kernel)
set_option maxRecDepth 20000 in
theorem gX10_taper_X10_isFresh : GoodIn wsX10_taper (wsV RX10 295 RX10 yX10_isFresh wsX10_isFresh) := goodIn_app (goodIn_of _ (by decide +kernel)) ggX10_taper_X10_isFresh
set_option maxRecDepth 20000 in
theorem ggX10_taper_X10_canUndo : GoodIn wsX10_taper wsX10_canUndo := goodIn_r _ [17, 18, 19, 20, 21, 6, 22, 12, 50, 51, 52, 53, 54, 55, 56, 57, 58, 59, 60, 61, 62, 63, 64, 65, 66, 67, 68, 69, 70, 71, 72, 73, 74, 75, 76, 77, 78, 79, 80, 81, 82, 83, 84, 85, 86] (by decide +kernel) (by decide +kernel)
set_option maxRecDepth 20000 in
theorem gX10_taper_X10_canUndo : GoodIn wsX10_taper (wsV RX10 277 RX10 yX10_canUndo wsX10_canUndo) := goodIn_app (goodIn_of _ (by decide +kernel)) ggX10_taper_X10_canUndo
set_option maxRecDepth 20000 in
theorem ggX10_taper_X10_size : GoodIn wsX10_taper wsX10_size := goodIn_r _ [26, 27, 50, 51, 52, 53, 54, 55, 56, 57, 58, 59, 60, 61, 62, 63, 64, 65, 66, 67, 68, 69, 70, 71, 72, 73, 74, 75, 76, 77, 78, 79, 80, 81, 82, 83, 84, 85, 86] (by decide +kernel) (by decide +kernel)
set_option maxRecDepth 20000 in
theorem gX10_taper_X10_size : GoodIn wsX10_taper (wsV RX10 196 RX10 yX10_size wsX10_size) := goodIn_app (goodIn_of _ (by decide +kernel)) ggX10_taper_X10_size
set_option maxRecDepth 20000 in
theorem ggX10_taper_X10_cosOf : GoodIn wsX10_taper wsX10_cosOf := goodIn_r _ [31, 23, 24, 25, 6, 26, 27, 32, 33, 34, 35, 36, 50, 51, 52, 53, 54, 55, 56, 57, 58, 59, 60, 61, 62, 63, 64, 65, 66, 67, 68, 69, 70, 71, 72, 73, 74, 75, 76, 77, 78, 79, 80, 81, 82, 83, 84, 85, 86] (by decide +kernel) (by decide +kernel)
set_option maxRecDepth 20000 in
theorem gX10_taper_X10_cosOf : GoodIn wsX10_taper (wsV RX10 207 RX10 yX10_cosOf wsX10_cosOf) := goodIn_app (goodIn_of _ (by decide +kernel)) ggX10_taper_X10_cosOf
set_option maxRecDepth 20000 in
theorem ggX10_taper_X10_of : GoodIn wsX10_taper wsX10_of := goodIn_r _ [11, 12, 13, 50, 51, 52, 53, 54, 55, 56, 57, 58, 59, 60, 61, 62, 63, 64, 65, 66, 67, 68, 69, 70, 71, 72, 73, 74, 75, 76, 77, 78, 79, 80, 81, 82, 83, 84, 85, 86] (by decide +kernel) (by decide +kernel)
set_option maxRecDepth 20000 in
theorem gX10_taper_X10_of : GoodIn wsX10_taper (wsV RX10 187 RX10 yX10_of wsX10_of) := goodIn_app (goodIn_of _ (by decide +kernel)) ggX10_taper_X10_of
set_option maxRecDepth 20000 in
theorem ggX10_taper_X10_rounded : GoodIn wsX10_taper wsX10_rounded := goodIn_r _ [40, 41, 50, 51, 52, 53, 54, 55, 56, 57, 58, 59, 60, 61, 62, 63, 64, 65, 66, 67, 68, 69, 70, 71, 72, 73, 74, 75, 76, 77, 78, 79, 80, 81, 82, 83, 84, 85, 86] (by decide +kernel) (by decide +kernel)
set_option maxRecDepth 20000 in
theorem gX10_taper_X10_rounded : GoodIn wsX10_taper (wsV RX10 240 RX10 yX10_rounded wsX10_rounded) := goodIn_app (goodIn_of _ (by decide +kernel)) ggX10_taper_X10_rounded
set_option maxRecDepth 20000 in
theorem ggX10_taper_X10_lay : GoodIn wsX10_taper wsX10_lay := goodIn_r _ [45, 12, 13, 50, 51, 52, 53, 54, 55, 56, 57, 58, 59, 60, 61, 62, 63, 64, 65, 66, 67, 68, 69, 70, 71, 72, 73, 74, 75, 76, 77, 78, 79, 80, 81, 82, 83, 84, 85, 86] (by decide +kernel) (by decide +kernel)
set_option maxRecDepth 20000 in
theorem gX10_taper_X10_lay : GoodIn wsX10_taper (wsV RX10 118 RX10 yX10_lay wsX10_lay) := goodIn_app (goodIn_of _ (by decide +kernel)) ggX10_taper_X10_lay
set_option maxRecDepth 20000 in
theorem ggX10_taper_X10_asTheyAre : GoodIn wsX10_taper wsX10_asTheyAre := goodIn_r _ [49, 8, 9, 10, 6, 11, 12, 13, 42, 43, 44, 45, 50, 51, 52, 53, 54, 55, 56, 57, 58, 59, 60, 61, 62, 63, 64, 65, 66, 67, 68, 69, 70, 71, 72, 73, 74, 75, 76, 77, 78, 79, 80, 81, 82, 83, 84, 85, 86] (by decide +kernel) (by decide +kernel)
set_option maxRecDepth 20000 in
theorem gX10_taper_X10_asTheyAre : GoodIn wsX10_taper (wsV RX10 298 RX10 yX10_asTheyAre wsX10_asTheyAre) := goodIn_app (goodIn_of _ (by decide +kernel)) ggX10_taper_X10_asTheyAre
theorem dX10_taper_0 : decode cX10_taper 0 = .ok (.aload_n 0, 1) := by decide +kernel
theorem dX10_taper_1 : decode cX10_taper 1 = .ok (.iconst 0, 1) := by decide +kernel
theorem dX10_taper_2 : decode cX10_taper 2 = .ok (.putfield 70, 3) := by decide +kernel
theorem dX10_taper_5 : decode cX10_taper 5 = .ok (.aload_n 0, 1) := by decide +kernel
theorem dX10_taper_6 : decode cX10_taper 6 = .ok (.invokevirtual 295, 3) := by decide +kernel
theorem dX10_taper_9 : decode cX10_taper 9 = .ok (.ifCond .ne 5, 3) := by decide +kernel
theorem dX10_taper_12 : decode cX10_taper 12 = .ok (.iconst 0, 1) := by decide +kernel
theorem dX10_taper_13 : decode cX10_taper 13 = .ok (.ireturn, 1) := by decide +kernel
theorem dX10_taper_14 : decode cX10_taper 14 = .ok (.aload_n 0, 1) := by decide +kernel
theorem dX10_taper_15 : decode cX10_taper 15 = .ok (.invokevirtual 277, 3) := by decide +kernel
theorem dX10_taper_18 : decode cX10_taper 18 = .ok (.iconst 0, 1) := by decide +kernel
theorem dX10_taper_19 : decode cX10_taper 19 = .ok (.istore_n 1, 1) := by decide +kernel
theorem dX10_taper_20 : decode cX10_taper 20 = .ok (.iload_n 1, 1) := by decide +kernel
theorem dX10_taper_21 : decode cX10_taper 21 = .ok (.aload_n 0, 1) := by decide +kernel
theorem dX10_taper_22 : decode cX10_taper 22 = .ok (.invokevirtual 196, 3) := by decide +kernel
theorem dX10_taper_25 : decode cX10_taper 25 = .ok (.if_icmp .ge 66, 3) := by decide +kernel
theorem dX10_taper_28 : decode cX10_taper 28 = .ok (.ldc2_w 301, 3) := by decide +kernel
theorem dX10_taper_31 : decode cX10_taper 31 = .ok (.aload_n 0, 1) := by decide +kernel
theorem dX10_taper_32 : decode cX10_taper 32 = .ok (.iload_n 1, 1) := by decide +kernel
theorem dX10_taper_33 : decode cX10_taper 33 = .ok (.invokevirtual 207, 3) := by decide +kernel
theorem dX10_taper_36 : decode cX10_taper 36 = .ok (.i2l, 1) := by decide +kernel
theorem dX10_taper_37 : decode cX10_taper 37 = .ok (.lsub, 1) := by decide +kernel
theorem dX10_taper_38 : decode cX10_taper 38 = .ok (.lstore_n 2, 1) := by decide +kernel
theorem dX10_taper_39 : decode cX10_taper 39 = .ok (.aload_n 0, 1) := by decide +kernel
theorem dX10_taper_40 : decode cX10_taper 40 = .ok (.iload_n 1, 1) := by decide +kernel
theorem dX10_taper_41 : decode cX10_taper 41 = .ok (.aload_n 0, 1) := by decide +kernel
theorem dX10_taper_42 : decode cX10_taper 42 = .ok (.aload_n 0, 1) := by decide +kernel
theorem dX10_taper_43 : decode cX10_taper 43 = .ok (.iload_n 1, 1) := by decide +kernel
theorem dX10_taper_44 : decode cX10_taper 44 = .ok (.invokevirtual 187, 3) := by decide +kernel
theorem dX10_taper_47 : decode cX10_taper 47 = .ok (.i2l, 1) := by decide +kernel
theorem dX10_taper_48 : decode cX10_taper 48 = .ok (.lload_n 2, 1) := by decide +kernel
theorem dX10_taper_49 : decode cX10_taper 49 = .ok (.lmul, 1) := by decide +kernel
theorem dX10_taper_50 : decode cX10_taper 50 = .ok (.bipush 15, 2) := by decide +kernel
theorem dX10_taper_52 : decode cX10_taper 52 = .ok (.invokevirtual 240, 3) := by decide +kernel
theorem dX10_taper_55 : decode cX10_taper 55 = .ok (.l2i, 1) := by decide +kernel
theorem dX10_taper_56 : decode cX10_taper 56 = .ok (.invokevirtual 118, 3) := by decide +kernel
theorem dX10_taper_59 : decode cX10_taper 59 = .ok (.aload_n 0, 1) := by decide +kernel
theorem dX10_taper_60 : decode cX10_taper 60 = .ok (.bipush 32, 2) := by decide +kernel
theorem dX10_taper_62 : decode cX10_taper 62 = .ok (.iload_n 1, 1) := by decide +kernel
theorem dX10_taper_63 : decode cX10_taper 63 = .ok (.iadd, 1) := by decide +kernel
theorem dX10_taper_64 : decode cX10_taper 64 = .ok (.aload_n 0, 1) := by decide +kernel
theorem dX10_taper_65 : decode cX10_taper 65 = .ok (.aload_n 0, 1) := by decide +kernel
theorem dX10_taper_66 : decode cX10_taper 66 = .ok (.bipush 32, 2) := by decide +kernel
theorem dX10_taper_68 : decode cX10_taper 68 = .ok (.iload_n 1, 1) := by decide +kernel
theorem dX10_taper_69 : decode cX10_taper 69 = .ok (.iadd, 1) := by decide +kernel
theorem dX10_taper_70 : decode cX10_taper 70 = .ok (.invokevirtual 187, 3) := by decide +kernel
theorem dX10_taper_73 : decode cX10_taper 73 = .ok (.i2l, 1) := by decide +kernel
theorem dX10_taper_74 : decode cX10_taper 74 = .ok (.lload_n 2, 1) := by decide +kernel
theorem dX10_taper_75 : decode cX10_taper 75 = .ok (.lmul, 1) := by decide +kernel
theorem dX10_taper_76 : decode cX10_taper 76 = .ok (.bipush 15, 2) := by decide +kernel
theorem dX10_taper_78 : decode cX10_taper 78 = .ok (.invokevirtual 240, 3) := by decide +kernel
theorem dX10_taper_81 : decode cX10_taper 81 = .ok (.l2i, 1) := by decide +kernel
theorem dX10_taper_82 : decode cX10_taper 82 = .ok (.invokevirtual 118, 3) := by decide +kernel
theorem dX10_taper_85 : decode cX10_taper 85 = .ok (.iinc 1 1, 3) := by decide +kernel
theorem dX10_taper_88 : decode cX10_taper 88 = .ok (.goto (-68), 3) := by decide +kernel
theorem dX10_taper_91 : decode cX10_taper 91 = .ok (.aload_n 0, 1) := by decide +kernel
theorem dX10_taper_92 : decode cX10_taper 92 = .ok (.invokevirtual 298, 3) := by decide +kernel
theorem dX10_taper_95 : decode cX10_taper 95 = .ok (.iconst 1, 1) := by decide +kernel
theorem dX10_taper_96 : decode cX10_taper 96 = .ok (.ireturn, 1) := by decide +kernel
set_option maxRecDepth 20000 in
theorem ggX10_moves_X10_canUndo : GoodIn wsX10_moves wsX10_canUndo := goodIn_r _ [7, 8, 9, 10, 11, 6, 12, 13, 36, 37, 38, 39, 40, 41, 42, 43, 44, 45, 46, 47, 48, 49, 50, 51, 52, 53, 54, 55, 56, 57, 58, 59, 60, 61, 62, 63, 64, 65, 66, 67, 68, 69, 70, 71, 72] (by decide +kernel) (by decide +kernel)
set_option maxRecDepth 20000 in
theorem gX10_moves_X10_canUndo : GoodIn wsX10_moves (wsV RX10 277 RX10 yX10_canUndo wsX10_canUndo) := goodIn_app (goodIn_of _ (by decide +kernel)) ggX10_moves_X10_canUndo
set_option maxRecDepth 20000 in
theorem ggX10_moves_X10_size : GoodIn wsX10_moves wsX10_size := goodIn_r _ [17, 18, 36, 37, 38, 39, 40, 41, 42, 43, 44, 45, 46, 47, 48, 49, 50, 51, 52, 53, 54, 55, 56, 57, 58, 59, 60, 61, 62, 63, 64, 65, 66, 67, 68, 69, 70, 71, 72] (by decide +kernel) (by decide +kernel)
set_option maxRecDepth 20000 in
theorem gX10_moves_X10_size : GoodIn wsX10_moves (wsV RX10 196 RX10 yX10_size wsX10_size) := goodIn_app (goodIn_of _ (by decide +kernel)) ggX10_moves_X10_size
set_option maxRecDepth 20000 in
theorem ggX10_moves_X10_of : GoodIn wsX10_moves wsX10_of := goodIn_r _ [22, 13, 23, 36, 37, 38, 39, 40, 41, 42, 43, 44, 45, 46, 47, 48, 49, 50, 51, 52, 53, 54, 55, 56, 57, 58, 59, 60, 61, 62, 63, 64, 65, 66, 67, 68, 69, 70, 71, 72] (by decide +kernel) (by decide +kernel)
set_option maxRecDepth 20000 in
theorem gX10_moves_X10_of : GoodIn wsX10_moves (wsV RX10 187 RX10 yX10_of wsX10_of) := goodIn_app (goodIn_of _ (by decide +kernel)) ggX10_moves_X10_of
set_option maxRecDepth 20000 in
theorem ggX10_moves_X10_laid : GoodIn wsX10_moves wsX10_laid := goodIn_r _ [27, 1, 2, 14, 15, 16, 6, 17, 18, 28, 29, 30, 31, 13, 23, 36, 37, 38, 39, 40, 41, 42, 43, 44, 45, 46, 47, 48, 49, 50, 51, 52, 53, 54, 55, 56, 57, 58, 59, 60, 61, 62, 63, 64, 65, 66, 67, 68, 69, 70, 71, 72] (by decide +kernel) (by decide +kernel)
set_option maxRecDepth 20000 in
theorem gX10_moves_X10_laid : GoodIn wsX10_moves (wsV RX10 234 RX10 yX10_laid wsX10_laid) := goodIn_app (goodIn_of _ (by decide +kernel)) ggX10_moves_X10_laid
set_option maxRecDepth 20000 in
theorem ggX10_moves_X10_asTheyAre : GoodIn wsX10_moves wsX10_asTheyAre := goodIn_r _ [35, 19, 20, 21, 6, 22, 13, 23, 28, 29, 30, 31, 36, 37, 38, 39, 40, 41, 42, 43, 44, 45, 46, 47, 48, 49, 50, 51, 52, 53, 54, 55, 56, 57, 58, 59, 60, 61, 62, 63, 64, 65, 66, 67, 68, 69, 70, 71, 72] (by decide +kernel) (by decide +kernel)
set_option maxRecDepth 20000 in
theorem gX10_moves_X10_asTheyAre : GoodIn wsX10_moves (wsV RX10 298 RX10 yX10_asTheyAre wsX10_asTheyAre) := goodIn_app (goodIn_of _ (by decide +kernel)) ggX10_moves_X10_asTheyAre
theorem dX10_moves_0 : decode cX10_moves 0 = .ok (.aload_n 0, 1) := by decide +kernel
theorem dX10_moves_1 : decode cX10_moves 1 = .ok (.invokevirtual 277, 3) := by decide +kernel
theorem dX10_moves_4 : decode cX10_moves 4 = .ok (.iconst 0, 1) := by decide +kernel
theorem dX10_moves_5 : decode cX10_moves 5 = .ok (.istore_n 3, 1) := by decide +kernel
theorem dX10_moves_6 : decode cX10_moves 6 = .ok (.iload_n 3, 1) := by decide +kernel
theorem dX10_moves_7 : decode cX10_moves 7 = .ok (.aload_n 0, 1) := by decide +kernel
theorem dX10_moves_8 : decode cX10_moves 8 = .ok (.invokevirtual 196, 3) := by decide +kernel
theorem dX10_moves_11 : decode cX10_moves 11 = .ok (.if_icmp .ge 53, 3) := by decide +kernel
theorem dX10_moves_14 : decode cX10_moves 14 = .ok (.iload_n 1, 1) := by decide +kernel
theorem dX10_moves_15 : decode cX10_moves 15 = .ok (.iload_n 2, 1) := by decide +kernel
theorem dX10_moves_16 : decode cX10_moves 16 = .ok (.iload_n 3, 1) := by decide +kernel
theorem dX10_moves_17 : decode cX10_moves 17 = .ok (.imul, 1) := by decide +kernel
theorem dX10_moves_18 : decode cX10_moves 18 = .ok (.iadd, 1) := by decide +kernel
theorem dX10_moves_19 : decode cX10_moves 19 = .ok (.aload_n 0, 1) := by decide +kernel
theorem dX10_moves_20 : decode cX10_moves 20 = .ok (.invokevirtual 196, 3) := by decide +kernel
theorem dX10_moves_23 : decode cX10_moves 23 = .ok (.iadd, 1) := by decide +kernel
theorem dX10_moves_24 : decode cX10_moves 24 = .ok (.aload_n 0, 1) := by decide +kernel
theorem dX10_moves_25 : decode cX10_moves 25 = .ok (.invokevirtual 196, 3) := by decide +kernel
theorem dX10_moves_28 : decode cX10_moves 28 = .ok (.irem, 1) := by decide +kernel
theorem dX10_moves_29 : decode cX10_moves 29 = .ok (.istore 4, 2) := by decide +kernel
theorem dX10_moves_31 : decode cX10_moves 31 = .ok (.aload_n 0, 1) := by decide +kernel
theorem dX10_moves_32 : decode cX10_moves 32 = .ok (.getfield 42, 3) := by decide +kernel
theorem dX10_moves_35 : decode cX10_moves 35 = .ok (.iload 4, 2) := by decide +kernel
theorem dX10_moves_37 : decode cX10_moves 37 = .ok (.aload_n 0, 1) := by decide +kernel
theorem dX10_moves_38 : decode cX10_moves 38 = .ok (.iload_n 3, 1) := by decide +kernel
theorem dX10_moves_39 : decode cX10_moves 39 = .ok (.invokevirtual 187, 3) := by decide +kernel
theorem dX10_moves_42 : decode cX10_moves 42 = .ok (.iastore, 1) := by decide +kernel
theorem dX10_moves_43 : decode cX10_moves 43 = .ok (.aload_n 0, 1) := by decide +kernel
theorem dX10_moves_44 : decode cX10_moves 44 = .ok (.getfield 45, 3) := by decide +kernel
theorem dX10_moves_47 : decode cX10_moves 47 = .ok (.iload 4, 2) := by decide +kernel
theorem dX10_moves_49 : decode cX10_moves 49 = .ok (.aload_n 0, 1) := by decide +kernel
theorem dX10_moves_50 : decode cX10_moves 50 = .ok (.bipush 32, 2) := by decide +kernel
theorem dX10_moves_52 : decode cX10_moves 52 = .ok (.iload_n 3, 1) := by decide +kernel
theorem dX10_moves_53 : decode cX10_moves 53 = .ok (.iadd, 1) := by decide +kernel
theorem dX10_moves_54 : decode cX10_moves 54 = .ok (.invokevirtual 187, 3) := by decide +kernel
theorem dX10_moves_57 : decode cX10_moves 57 = .ok (.iastore, 1) := by decide +kernel
theorem dX10_moves_58 : decode cX10_moves 58 = .ok (.iinc 3 1, 3) := by decide +kernel
theorem dX10_moves_61 : decode cX10_moves 61 = .ok (.goto (-55), 3) := by decide +kernel
theorem dX10_moves_64 : decode cX10_moves 64 = .ok (.aload_n 0, 1) := by decide +kernel
theorem dX10_moves_65 : decode cX10_moves 65 = .ok (.invokevirtual 234, 3) := by decide +kernel
theorem dX10_moves_68 : decode cX10_moves 68 = .ok (.aload_n 0, 1) := by decide +kernel
theorem dX10_moves_69 : decode cX10_moves 69 = .ok (.invokevirtual 298, 3) := by decide +kernel
theorem dX10_moves_72 : decode cX10_moves 72 = .ok (.return_, 1) := by decide +kernel
set_option maxRecDepth 20000 in
theorem ggX10_shift_X10_isIn : GoodIn wsX10_shift wsX10_isIn := goodIn_r _ [5] (by decide +kernel) (by decide +kernel)
set_option maxRecDepth 20000 in
theorem gX10_shift_X10_isIn : GoodIn wsX10_shift (va_wsS RX10 138 yX10_isIn wsX10_isIn) := goodIn_app (goodIn_of _ (by decide +kernel)) ggX10_shift_X10_isIn
set_option maxRecDepth 20000 in
theorem ggX10_shift_X10_isFresh : GoodIn wsX10_shift wsX10_isFresh := goodIn_r _ [9, 10, 11, 12, 4, 13, 14, 15, 48, 49, 50, 51, 52, 53, 54, 55, 56, 57, 58, 59, 60, 61, 62, 63, 64, 65, 66, 67, 68, 69, 70, 71, 72, 73, 74, 75, 76, 77, 78, 79, 80, 81, 82, 83, 84] (by decide +kernel) (by decide +kernel)
set_option maxRecDepth 20000 in
theorem gX10_shift_X10_isFresh : GoodIn wsX10_shift (wsV RX10 295 RX10 yX10_isFresh wsX10_isFresh) := goodIn_app (goodIn_of _ (by decide +kernel)) ggX10_shift_X10_isFresh
set_option maxRecDepth 20000 in
theorem ggX10_shift_X10_moves : GoodIn wsX10_shift wsX10_moves := goodIn_r _ [19, 20, 21, 22, 23, 24, 4, 25, 26, 27, 28, 29, 30, 14, 31, 32, 33, 34, 35, 10, 11, 12, 13, 15, 36, 37, 38, 39, 40, 41, 42, 43, 44, 45, 46, 47, 48, 49, 50, 51, 52, 53, 54, 55, 56, 57, 58, 59, 60, 61, 62, 63, 64, 65, 66, 67, 68, 69, 70, 71, 72, 73, 74, 75, 76, 77, 78, 79, 80, 81, 82, 83, 84] (by decide +kernel) (by decide +kernel)
set_option maxRecDepth 20000 in
theorem gX10_shift_X10_moves : GoodIn wsX10_shift (wsV RX10 303 RX10 yX10_moves wsX10_moves) := goodIn_app (goodIn_of _ (by decide +kernel)) ggX10_shift_X10_moves
theorem dX10_shift_0 : decode cX10_shift 0 = .ok (.aload_n 0, 1) := by decide +kernel
theorem dX10_shift_1 : decode cX10_shift 1 = .ok (.iconst 0, 1) := by decide +kernel
theorem dX10_shift_2 : decode cX10_shift 2 = .ok (.putfield 70, 3) := by decide +kernel
theorem dX10_shift_5 : decode cX10_shift 5 = .ok (.iload_n 1, 1) := by decide +kernel
theorem dX10_shift_6 : decode cX10_shift 6 = .ok (.iconst 1, 1) := by decide +kernel
theorem dX10_shift_7 : decode cX10_shift 7 = .ok (.bipush 31, 2) := by decide +kernel
theorem dX10_shift_9 : decode cX10_shift 9 = .ok (.invokestatic 138, 3) := by decide +kernel
theorem dX10_shift_12 : decode cX10_shift 12 = .ok (.ifCond .eq 10, 3) := by decide +kernel
theorem dX10_shift_15 : decode cX10_shift 15 = .ok (.aload_n 0, 1) := by decide +kernel
theorem dX10_shift_16 : decode cX10_shift 16 = .ok (.invokevirtual 295, 3) := by decide +kernel
theorem dX10_shift_19 : decode cX10_shift 19 = .ok (.ifCond .ne 5, 3) := by decide +kernel
theorem dX10_shift_22 : decode cX10_shift 22 = .ok (.iconst 0, 1) := by decide +kernel
theorem dX10_shift_23 : decode cX10_shift 23 = .ok (.ireturn, 1) := by decide +kernel
theorem dX10_shift_24 : decode cX10_shift 24 = .ok (.aload_n 0, 1) := by decide +kernel
theorem dX10_shift_25 : decode cX10_shift 25 = .ok (.iload_n 1, 1) := by decide +kernel
theorem dX10_shift_26 : decode cX10_shift 26 = .ok (.iconst 1, 1) := by decide +kernel
theorem dX10_shift_27 : decode cX10_shift 27 = .ok (.invokevirtual 303, 3) := by decide +kernel
theorem dX10_shift_30 : decode cX10_shift 30 = .ok (.iconst 1, 1) := by decide +kernel
theorem dX10_shift_31 : decode cX10_shift 31 = .ok (.ireturn, 1) := by decide +kernel
set_option maxRecDepth 20000 in
theorem ggX10_turnRound_X10_isFresh : GoodIn wsX10_turnRound wsX10_isFresh := goodIn_r _ [6, 7, 8, 9, 5, 10, 11, 12, 45, 46, 47, 48, 49, 50, 51, 52, 53, 54, 55, 56, 57, 58, 59, 60, 61, 62, 63, 64, 65, 66, 67, 68, 69, 70, 71, 72, 73, 74, 75, 76, 77, 78, 79, 80, 81] (by decide +kernel) (by decide +kernel)
set_option maxRecDepth 20000 in
theorem gX10_turnRound_X10_isFresh : GoodIn wsX10_turnRound (wsV RX10 295 RX10 yX10_isFresh wsX10_isFresh) := goodIn_app (goodIn_of _ (by decide +kernel)) ggX10_turnRound_X10_isFresh
set_option maxRecDepth 20000 in
theorem ggX10_turnRound_X10_moves : GoodIn wsX10_turnRound wsX10_moves := goodIn_r _ [16, 17, 18, 19, 20, 21, 5, 22, 23, 24, 25, 26, 27, 11, 28, 29, 30, 31, 32, 7, 8, 9, 10, 12, 33, 34, 35, 36, 37, 38, 39, 40, 41, 42, 43, 44, 45, 46, 47, 48, 49, 50, 51, 52, 53, 54, 55, 56, 57, 58, 59, 60, 61, 62, 63, 64, 65, 66, 67, 68, 69, 70, 71, 72, 73, 74, 75, 76, 77, 78, 79, 80, 81] (by decide +kernel) (by decide +kernel)
set_option maxRecDepth 20000 in
theorem gX10_turnRound_X10_moves : GoodIn wsX10_turnRound (wsV RX10 303 RX10 yX10_moves wsX10_moves) := goodIn_app (goodIn_of _ (by decide +kernel)) ggX10_turnRound_X10_moves
theorem dX10_turnRound_0 : decode cX10_turnRound 0 = .ok (.aload_n 0, 1) := by decide +kernel
theorem dX10_turnRound_1 : decode cX10_turnRound 1 = .ok (.iconst 0, 1) := by decide +kernel
theorem dX10_turnRound_2 : decode cX10_turnRound 2 = .ok (.putfield 70, 3) := by decide +kernel
theorem dX10_turnRound_5 : decode cX10_turnRound 5 = .ok (.aload_n 0, 1) := by decide +kernel
theorem dX10_turnRound_6 : decode cX10_turnRound 6 = .ok (.invokevirtual 295, 3) := by decide +kernel
theorem dX10_turnRound_9 : decode cX10_turnRound 9 = .ok (.ifCond .ne 5, 3) := by decide +kernel
theorem dX10_turnRound_12 : decode cX10_turnRound 12 = .ok (.iconst 0, 1) := by decide +kernel
theorem dX10_turnRound_13 : decode cX10_turnRound 13 = .ok (.ireturn, 1) := by decide +kernel
theorem dX10_turnRound_14 : decode cX10_turnRound 14 = .ok (.aload_n 0, 1) := by decide +kernel
theorem dX10_turnRound_15 : decode cX10_turnRound 15 = .ok (.iconst 0, 1) := by decide +kernel
theorem dX10_turnRound_16 : decode cX10_turnRound 16 = .ok (.iconst (-1), 1) := by decide +kernel
theorem dX10_turnRound_17 : decode cX10_turnRound 17 = .ok (.invokevirtual 303, 3) := by decide +kernel
theorem dX10_turnRound_20 : decode cX10_turnRound 20 = .ok (.iconst 1, 1) := by decide +kernel
theorem dX10_turnRound_21 : decode cX10_turnRound 21 = .ok (.ireturn, 1) := by decide +kernel
set_option maxRecDepth 20000 in
theorem ggX10_louder_X10_isIn : GoodIn wsX10_louder wsX10_isIn := goodIn_r _ [6] (by decide +kernel) (by decide +kernel)
set_option maxRecDepth 20000 in
theorem gX10_louder_X10_isIn : GoodIn wsX10_louder (va_wsS RX10 138 yX10_isIn wsX10_isIn) := goodIn_app (goodIn_of _ (by decide +kernel)) ggX10_louder_X10_isIn
set_option maxRecDepth 20000 in
theorem ggX10_louder_X10_isFresh : GoodIn wsX10_louder wsX10_isFresh := goodIn_r _ [10, 11, 12, 13, 5, 14, 15, 16, 50, 51, 52, 53, 54, 55, 56, 57, 58, 59, 60, 61, 62, 63, 64, 65, 66, 67, 68, 69, 70, 71, 72, 73, 74, 75, 76, 77, 78, 79, 80, 81, 82, 83, 84, 85, 86] (by decide +kernel) (by decide +kernel)
set_option maxRecDepth 20000 in
theorem gX10_louder_X10_isFresh : GoodIn wsX10_louder (wsV RX10 295 RX10 yX10_isFresh wsX10_isFresh) := goodIn_app (goodIn_of _ (by decide +kernel)) ggX10_louder_X10_isFresh
set_option maxRecDepth 20000 in
theorem ggX10_louder_X10_largestNow : GoodIn wsX10_louder wsX10_largestNow := goodIn_r _ [20, 21, 22, 23, 5, 24, 25, 26, 27, 28, 29, 11, 12, 13, 14, 15, 16, 30, 31, 32, 50, 51, 52, 53, 54, 55, 56, 57, 58, 59, 60, 61, 62, 63, 64, 65, 66, 67, 68, 69, 70, 71, 72, 73, 74, 75, 76, 77, 78, 79, 80, 81, 82, 83, 84, 85, 86] (by decide +kernel) (by decide +kernel)
set_option maxRecDepth 20000 in
theorem gX10_louder_X10_largestNow : GoodIn wsX10_louder (wsV RX10 237 RX10 yX10_largestNow wsX10_largestNow) := goodIn_app (goodIn_of _ (by decide +kernel)) ggX10_louder_X10_largestNow
set_option maxRecDepth 20000 in
theorem ggX10_louder_X10_canUndo : GoodIn wsX10_louder wsX10_canUndo := goodIn_r _ [36, 37, 38, 39, 40, 5, 41, 15, 50, 51, 52, 53, 54, 55, 56, 57, 58, 59, 60, 61, 62, 63, 64, 65, 66, 67, 68, 69, 70, 71, 72, 73, 74, 75, 76, 77, 78, 79, 80, 81, 82, 83, 84, 85, 86] (by decide +kernel) (by decide +kernel)
set_option maxRecDepth 20000 in
theorem gX10_louder_X10_canUndo : GoodIn wsX10_louder (wsV RX10 277 RX10 yX10_canUndo wsX10_canUndo) := goodIn_app (goodIn_of _ (by decide +kernel)) ggX10_louder_X10_canUndo
set_option maxRecDepth 20000 in
theorem ggX10_louder_X10_of : GoodIn wsX10_louder wsX10_of := goodIn_r _ [14, 15, 16, 50, 51, 52, 53, 54, 55, 56, 57, 58, 59, 60, 61, 62, 63, 64, 65, 66, 67, 68, 69, 70, 71, 72, 73, 74, 75, 76, 77, 78, 79, 80, 81, 82, 83, 84, 85, 86] (by decide +kernel) (by decide +kernel)
set_option maxRecDepth 20000 in
theorem gX10_louder_X10_of : GoodIn wsX10_louder (wsV RX10 187 RX10 yX10_of wsX10_of) := goodIn_app (goodIn_of _ (by decide +kernel)) ggX10_louder_X10_of
set_option maxRecDepth 20000 in
theorem ggX10_louder_X10_lay : GoodIn wsX10_louder wsX10_lay := goodIn_r _ [45, 15, 16, 50, 51, 52, 53, 54, 55, 56, 57, 58, 59, 60, 61, 62, 63, 64, 65, 66, 67, 68, 69, 70, 71, 72, 73, 74, 75, 76, 77, 78, 79, 80, 81, 82, 83, 84, 85, 86] (by decide +kernel) (by decide +kernel)
set_option maxRecDepth 20000 in
theorem gX10_louder_X10_lay : GoodIn wsX10_louder (wsV RX10 118 RX10 yX10_lay wsX10_lay) := goodIn_app (goodIn_of _ (by decide +kernel)) ggX10_louder_X10_lay
set_option maxRecDepth 20000 in
theorem ggX10_louder_X10_asTheyAre : GoodIn wsX10_louder wsX10_asTheyAre := goodIn_r _ [49, 11, 12, 13, 5, 14, 15, 16, 42, 43, 44, 45, 50, 51, 52, 53, 54, 55, 56, 57, 58, 59, 60, 61, 62, 63, 64, 65, 66, 67, 68, 69, 70, 71, 72, 73, 74, 75, 76, 77, 78, 79, 80, 81, 82, 83, 84, 85, 86] (by decide +kernel) (by decide +kernel)
set_option maxRecDepth 20000 in
theorem gX10_louder_X10_asTheyAre : GoodIn wsX10_louder (wsV RX10 298 RX10 yX10_asTheyAre wsX10_asTheyAre) := goodIn_app (goodIn_of _ (by decide +kernel)) ggX10_louder_X10_asTheyAre
theorem dX10_louder_0 : decode cX10_louder 0 = .ok (.aload_n 0, 1) := by decide +kernel
theorem dX10_louder_1 : decode cX10_louder 1 = .ok (.iconst 0, 1) := by decide +kernel
theorem dX10_louder_2 : decode cX10_louder 2 = .ok (.putfield 70, 3) := by decide +kernel
theorem dX10_louder_5 : decode cX10_louder 5 = .ok (.iload_n 1, 1) := by decide +kernel
theorem dX10_louder_6 : decode cX10_louder 6 = .ok (.iconst 2, 1) := by decide +kernel
theorem dX10_louder_7 : decode cX10_louder 7 = .ok (.bipush 9, 2) := by decide +kernel
theorem dX10_louder_9 : decode cX10_louder 9 = .ok (.invokestatic 138, 3) := by decide +kernel
theorem dX10_louder_12 : decode cX10_louder 12 = .ok (.ifCond .eq 23, 3) := by decide +kernel
theorem dX10_louder_15 : decode cX10_louder 15 = .ok (.aload_n 0, 1) := by decide +kernel
theorem dX10_louder_16 : decode cX10_louder 16 = .ok (.invokevirtual 295, 3) := by decide +kernel
theorem dX10_louder_19 : decode cX10_louder 19 = .ok (.ifCond .eq 16, 3) := by decide +kernel
theorem dX10_louder_22 : decode cX10_louder 22 = .ok (.aload_n 0, 1) := by decide +kernel
theorem dX10_louder_23 : decode cX10_louder 23 = .ok (.invokevirtual 237, 3) := by decide +kernel
theorem dX10_louder_26 : decode cX10_louder 26 = .ok (.iload_n 1, 1) := by decide +kernel
theorem dX10_louder_27 : decode cX10_louder 27 = .ok (.imul, 1) := by decide +kernel
theorem dX10_louder_28 : decode cX10_louder 28 = .ok (.aload_n 0, 1) := by decide +kernel
theorem dX10_louder_29 : decode cX10_louder 29 = .ok (.getfield 175, 3) := by decide +kernel
theorem dX10_louder_32 : decode cX10_louder 32 = .ok (.if_icmp .le 5, 3) := by decide +kernel
theorem dX10_louder_35 : decode cX10_louder 35 = .ok (.iconst 0, 1) := by decide +kernel
theorem dX10_louder_36 : decode cX10_louder 36 = .ok (.ireturn, 1) := by decide +kernel
theorem dX10_louder_37 : decode cX10_louder 37 = .ok (.aload_n 0, 1) := by decide +kernel
theorem dX10_louder_38 : decode cX10_louder 38 = .ok (.invokevirtual 277, 3) := by decide +kernel
theorem dX10_louder_41 : decode cX10_louder 41 = .ok (.iconst 0, 1) := by decide +kernel
theorem dX10_louder_42 : decode cX10_louder 42 = .ok (.istore_n 2, 1) := by decide +kernel
theorem dX10_louder_43 : decode cX10_louder 43 = .ok (.iload_n 2, 1) := by decide +kernel
theorem dX10_louder_44 : decode cX10_louder 44 = .ok (.bipush 64, 2) := by decide +kernel
theorem dX10_louder_46 : decode cX10_louder 46 = .ok (.if_icmp .ge 21, 3) := by decide +kernel
theorem dX10_louder_49 : decode cX10_louder 49 = .ok (.aload_n 0, 1) := by decide +kernel
theorem dX10_louder_50 : decode cX10_louder 50 = .ok (.iload_n 2, 1) := by decide +kernel
theorem dX10_louder_51 : decode cX10_louder 51 = .ok (.aload_n 0, 1) := by decide +kernel
theorem dX10_louder_52 : decode cX10_louder 52 = .ok (.iload_n 2, 1) := by decide +kernel
theorem dX10_louder_53 : decode cX10_louder 53 = .ok (.invokevirtual 187, 3) := by decide +kernel
theorem dX10_louder_56 : decode cX10_louder 56 = .ok (.iload_n 1, 1) := by decide +kernel
theorem dX10_louder_57 : decode cX10_louder 57 = .ok (.imul, 1) := by decide +kernel
theorem dX10_louder_58 : decode cX10_louder 58 = .ok (.invokevirtual 118, 3) := by decide +kernel
theorem dX10_louder_61 : decode cX10_louder 61 = .ok (.iinc 2 1, 3) := by decide +kernel
theorem dX10_louder_64 : decode cX10_louder 64 = .ok (.goto (-21), 3) := by decide +kernel
theorem dX10_louder_67 : decode cX10_louder 67 = .ok (.aload_n 0, 1) := by decide +kernel
theorem dX10_louder_68 : decode cX10_louder 68 = .ok (.invokevirtual 298, 3) := by decide +kernel
theorem dX10_louder_71 : decode cX10_louder 71 = .ok (.iconst 1, 1) := by decide +kernel
theorem dX10_louder_72 : decode cX10_louder 72 = .ok (.ireturn, 1) := by decide +kernel
theorem dX10_doubled_0 : decode cX10_doubled 0 = .ok (.iconst 0, 1) := by decide +kernel
theorem dX10_doubled_1 : decode cX10_doubled 1 = .ok (.istore_n 2, 1) := by decide +kernel
theorem dX10_doubled_2 : decode cX10_doubled 2 = .ok (.iload_n 1, 1) := by decide +kernel
theorem dX10_doubled_3 : decode cX10_doubled 3 = .ok (.i2l, 1) := by decide +kernel
theorem dX10_doubled_4 : decode cX10_doubled 4 = .ok (.lstore_n 3, 1) := by decide +kernel
theorem dX10_doubled_5 : decode cX10_doubled 5 = .ok (.iload_n 2, 1) := by decide +kernel
theorem dX10_doubled_6 : decode cX10_doubled 6 = .ok (.bipush 15, 2) := by decide +kernel
theorem dX10_doubled_8 : decode cX10_doubled 8 = .ok (.if_icmp .ge 29, 3) := by decide +kernel
theorem dX10_doubled_11 : decode cX10_doubled 11 = .ok (.ldc2_w 306, 3) := by decide +kernel
theorem dX10_doubled_14 : decode cX10_doubled 14 = .ok (.lload_n 3, 1) := by decide +kernel
theorem dX10_doubled_15 : decode cX10_doubled 15 = .ok (.lmul, 1) := by decide +kernel
theorem dX10_doubled_16 : decode cX10_doubled 16 = .ok (.aload_n 0, 1) := by decide +kernel
theorem dX10_doubled_17 : decode cX10_doubled 17 = .ok (.getfield 175, 3) := by decide +kernel
theorem dX10_doubled_20 : decode cX10_doubled 20 = .ok (.i2l, 1) := by decide +kernel
theorem dX10_doubled_21 : decode cX10_doubled 21 = .ok (.lcmp, 1) := by decide +kernel
theorem dX10_doubled_22 : decode cX10_doubled 22 = .ok (.ifCond .gt 15, 3) := by decide +kernel
theorem dX10_doubled_25 : decode cX10_doubled 25 = .ok (.lload_n 3, 1) := by decide +kernel
theorem dX10_doubled_26 : decode cX10_doubled 26 = .ok (.ldc2_w 306, 3) := by decide +kernel
theorem dX10_doubled_29 : decode cX10_doubled 29 = .ok (.lmul, 1) := by decide +kernel
theorem dX10_doubled_30 : decode cX10_doubled 30 = .ok (.lstore_n 3, 1) := by decide +kernel
theorem dX10_doubled_31 : decode cX10_doubled 31 = .ok (.iinc 2 1, 3) := by decide +kernel
theorem dX10_doubled_34 : decode cX10_doubled 34 = .ok (.goto (-29), 3) := by decide +kernel
theorem dX10_doubled_37 : decode cX10_doubled 37 = .ok (.iload_n 2, 1) := by decide +kernel
theorem dX10_doubled_38 : decode cX10_doubled 38 = .ok (.ireturn, 1) := by decide +kernel
set_option maxRecDepth 20000 in
theorem ggX10_largest_X10_largestNow : GoodIn wsX10_largest wsX10_largestNow := goodIn_r _ [6, 7, 8, 9, 5, 10, 11, 12, 13, 14, 15, 16, 17, 18, 19, 20, 21, 22, 23, 24, 25, 26, 27, 28, 29, 30, 31, 32, 33, 34, 35, 36, 37, 38, 39, 40, 41, 42, 43, 44, 45, 46, 47, 48, 49, 50, 51, 52, 53, 54, 55, 56, 57, 58, 59, 60, 61] (by decide +kernel) (by decide +kernel)
set_option maxRecDepth 20000 in
theorem gX10_largest_X10_largestNow : GoodIn wsX10_largest (wsV RX10 237 RX10 yX10_largestNow wsX10_largestNow) := goodIn_app (goodIn_of _ (by decide +kernel)) ggX10_largest_X10_largestNow
theorem dX10_largest_0 : decode cX10_largest 0 = .ok (.aload_n 0, 1) := by decide +kernel
theorem dX10_largest_1 : decode cX10_largest 1 = .ok (.iconst 0, 1) := by decide +kernel
theorem dX10_largest_2 : decode cX10_largest 2 = .ok (.putfield 70, 3) := by decide +kernel
theorem dX10_largest_5 : decode cX10_largest 5 = .ok (.aload_n 0, 1) := by decide +kernel
theorem dX10_largest_6 : decode cX10_largest 6 = .ok (.invokevirtual 237, 3) := by decide +kernel
theorem dX10_largest_9 : decode cX10_largest 9 = .ok (.ireturn, 1) := by decide +kernel
set_option maxRecDepth 20000 in
theorem ggX10_left_X10_largestNow : GoodIn wsX10_left wsX10_largestNow := goodIn_r _ [6, 7, 8, 9, 5, 10, 11, 12, 13, 14, 15, 16, 17, 18, 19, 20, 21, 22, 23, 24, 31, 32, 33, 34, 35, 36, 37, 38, 39, 40, 41, 42, 43, 44, 45, 46, 47, 48, 49, 50, 51, 52, 53, 54, 55, 56, 57, 58, 59, 60, 61, 62, 63, 64, 65, 66, 67] (by decide +kernel) (by decide +kernel)
set_option maxRecDepth 20000 in
theorem gX10_left_X10_largestNow : GoodIn wsX10_left (wsV RX10 237 RX10 yX10_largestNow wsX10_largestNow) := goodIn_app (goodIn_of _ (by decide +kernel)) ggX10_left_X10_largestNow
set_option maxRecDepth 20000 in
theorem ggX10_left_X10_doubled : GoodIn wsX10_left wsX10_doubled := goodIn_r _ [28, 29, 30, 31, 32, 33, 34, 35, 36, 37, 38, 39, 40, 41, 42, 43, 44, 45, 46, 47, 48, 49, 50, 51, 52, 53, 54, 55, 56, 57, 58, 59, 60, 61, 62, 63, 64, 65, 66, 67] (by decide +kernel) (by decide +kernel)
set_option maxRecDepth 20000 in
theorem gX10_left_X10_doubled : GoodIn wsX10_left (wsV RX10 308 RX10 yX10_doubled wsX10_doubled) := goodIn_app (goodIn_of _ (by decide +kernel)) ggX10_left_X10_doubled
theorem dX10_left_0 : decode cX10_left 0 = .ok (.aload_n 0, 1) := by decide +kernel
theorem dX10_left_1 : decode cX10_left 1 = .ok (.iconst 0, 1) := by decide +kernel
theorem dX10_left_2 : decode cX10_left 2 = .ok (.putfield 70, 3) := by decide +kernel
theorem dX10_left_5 : decode cX10_left 5 = .ok (.aload_n 0, 1) := by decide +kernel
theorem dX10_left_6 : decode cX10_left 6 = .ok (.aload_n 0, 1) := by decide +kernel
theorem dX10_left_7 : decode cX10_left 7 = .ok (.invokevirtual 237, 3) := by decide +kernel
theorem dX10_left_10 : decode cX10_left 10 = .ok (.invokevirtual 308, 3) := by decide +kernel
theorem dX10_left_13 : decode cX10_left 13 = .ok (.ireturn, 1) := by decide +kernel
set_option maxRecDepth 20000 in
theorem ggX10_room_X10_isPower : GoodIn wsX10_room wsX10_isPower := goodIn_r _ [6] (by decide +kernel) (by decide +kernel)
set_option maxRecDepth 20000 in
theorem gX10_room_X10_isPower : GoodIn wsX10_room (wsV RX10 135 RX10 yX10_isPower wsX10_isPower) := goodIn_app (goodIn_of _ (by decide +kernel)) ggX10_room_X10_isPower
set_option maxRecDepth 20000 in
theorem ggX10_room_X10_size : GoodIn wsX10_room wsX10_size := goodIn_r _ [10, 11, 31, 32, 33, 34, 35, 36, 37, 38, 39, 40, 41, 42, 43, 44, 45, 46, 47, 48, 49, 50, 51, 52, 53, 54, 55, 56, 57, 58, 59, 60, 61, 62, 63, 64, 65, 66, 67] (by decide +kernel) (by decide +kernel)
set_option maxRecDepth 20000 in
theorem gX10_room_X10_size : GoodIn wsX10_room (wsV RX10 196 RX10 yX10_size wsX10_size) := goodIn_app (goodIn_of _ (by decide +kernel)) ggX10_room_X10_size
set_option maxRecDepth 20000 in
theorem ggX10_room_X10_largestIn : GoodIn wsX10_room wsX10_largestIn := goodIn_r _ [15, 16, 17, 18, 5, 19, 20, 21, 22, 23, 24, 31, 32, 33, 34, 35, 36, 37, 38, 39, 40, 41, 42, 43, 44, 45, 46, 47, 48, 49, 50, 51, 52, 53, 54, 55, 56, 57, 58, 59, 60, 61, 62, 63, 64, 65, 66, 67] (by decide +kernel) (by decide +kernel)
set_option maxRecDepth 20000 in
theorem gX10_room_X10_largestIn : GoodIn wsX10_room (wsV RX10 231 RX10 yX10_largestIn wsX10_largestIn) := goodIn_app (goodIn_of _ (by decide +kernel)) ggX10_room_X10_largestIn
set_option maxRecDepth 20000 in
theorem ggX10_room_X10_doubled : GoodIn wsX10_room wsX10_doubled := goodIn_r _ [28, 29, 30, 31, 32, 33, 34, 35, 36, 37, 38, 39, 40, 41, 42, 43, 44, 45, 46, 47, 48, 49, 50, 51, 52, 53, 54, 55, 56, 57, 58, 59, 60, 61, 62, 63, 64, 65, 66, 67] (by decide +kernel) (by decide +kernel)
set_option maxRecDepth 20000 in
theorem gX10_room_X10_doubled : GoodIn wsX10_room (wsV RX10 308 RX10 yX10_doubled wsX10_doubled) := goodIn_app (goodIn_of _ (by decide +kernel)) ggX10_room_X10_doubled
theorem dX10_room_0 : decode cX10_room 0 = .ok (.aload_n 0, 1) := by decide +kernel
theorem dX10_room_1 : decode cX10_room 1 = .ok (.iconst 0, 1) := by decide +kernel
theorem dX10_room_2 : decode cX10_room 2 = .ok (.putfield 70, 3) := by decide +kernel
theorem dX10_room_5 : decode cX10_room 5 = .ok (.aload_n 0, 1) := by decide +kernel
theorem dX10_room_6 : decode cX10_room 6 = .ok (.iload_n 2, 1) := by decide +kernel
theorem dX10_room_7 : decode cX10_room 7 = .ok (.invokevirtual 135, 3) := by decide +kernel
theorem dX10_room_10 : decode cX10_room 10 = .ok (.ifCond .eq 25, 3) := by decide +kernel
theorem dX10_room_13 : decode cX10_room 13 = .ok (.iload_n 2, 1) := by decide +kernel
theorem dX10_room_14 : decode cX10_room 14 = .ok (.aload_n 0, 1) := by decide +kernel
theorem dX10_room_15 : decode cX10_room 15 = .ok (.invokevirtual 196, 3) := by decide +kernel
theorem dX10_room_18 : decode cX10_room 18 = .ok (.if_icmp .gt 17, 3) := by decide +kernel
theorem dX10_room_21 : decode cX10_room 21 = .ok (.iload_n 1, 1) := by decide +kernel
theorem dX10_room_22 : decode cX10_room 22 = .ok (.ifCond .lt 13, 3) := by decide +kernel
theorem dX10_room_25 : decode cX10_room 25 = .ok (.iload_n 1, 1) := by decide +kernel
theorem dX10_room_26 : decode cX10_room 26 = .ok (.aload_n 0, 1) := by decide +kernel
theorem dX10_room_27 : decode cX10_room 27 = .ok (.invokevirtual 196, 3) := by decide +kernel
theorem dX10_room_30 : decode cX10_room 30 = .ok (.iload_n 2, 1) := by decide +kernel
theorem dX10_room_31 : decode cX10_room 31 = .ok (.idiv, 1) := by decide +kernel
theorem dX10_room_32 : decode cX10_room 32 = .ok (.if_icmp .lt 5, 3) := by decide +kernel
theorem dX10_room_35 : decode cX10_room 35 = .ok (.iconst (-1), 1) := by decide +kernel
theorem dX10_room_36 : decode cX10_room 36 = .ok (.ireturn, 1) := by decide +kernel
theorem dX10_room_37 : decode cX10_room 37 = .ok (.aload_n 0, 1) := by decide +kernel
theorem dX10_room_38 : decode cX10_room 38 = .ok (.aload_n 0, 1) := by decide +kernel
theorem dX10_room_39 : decode cX10_room 39 = .ok (.iload_n 1, 1) := by decide +kernel
theorem dX10_room_40 : decode cX10_room 40 = .ok (.iload_n 2, 1) := by decide +kernel
theorem dX10_room_41 : decode cX10_room 41 = .ok (.imul, 1) := by decide +kernel
theorem dX10_room_42 : decode cX10_room 42 = .ok (.iload_n 2, 1) := by decide +kernel
theorem dX10_room_43 : decode cX10_room 43 = .ok (.invokevirtual 231, 3) := by decide +kernel
theorem dX10_room_46 : decode cX10_room 46 = .ok (.invokevirtual 308, 3) := by decide +kernel
theorem dX10_room_49 : decode cX10_room 49 = .ok (.ireturn, 1) := by decide +kernel
set_option maxRecDepth 20000 in
theorem ggX10_expRun_X10_beatsAll : GoodIn wsX10_expRun wsX10_beatsAll := goodIn_r _ [5, 6, 7, 8, 4, 9, 10, 11, 12, 13, 14, 15, 16, 17, 18, 19, 20, 21, 22, 23, 24, 25, 26, 27, 28, 29, 30, 31, 32, 33, 34, 35, 36, 37, 38, 39, 40, 41, 42, 43, 44, 45, 46, 47, 48, 49, 50, 51, 52, 53, 54, 55, 56, 57, 58, 59, 60, 61, 62, 63, 64, 65, 66, 67, 68, 69, 70, 71, 72, 73, 74, 75, 76, 77, 78, 79, 80, 81, 82, 83, 84, 85, 86, 87, 88, 89, 90, 91, 92, 93, 94, 95, 96, 97, 98, 99, 100, 101, 102, 103, 104, 105, 106, 107, 108, 109, 110, 111, 112, 113, 114, 115, 116, 117, 118, 119, 120, 121, 122, 123, 124, 125, 126, 127, 128, 129, 130, 131, 132, 133, 134, 135, 136, 137, 138, 139, 140, 141, 142, 143, 144, 145, 146, 147, 148, 149] (by decide +kernel) (by decide +kernel)
set_option maxRecDepth 20000 in
theorem gX10_expRun_X10_beatsAll : GoodIn wsX10_expRun (wsV RX10 280 RX10 yX10_beatsAll wsX10_beatsAll) := goodIn_app (goodIn_of _ (by decide +kernel)) ggX10_expRun_X10_beatsAll
set_option maxRecDepth 20000 in
theorem ggX10_expRun_X10_of : GoodIn wsX10_expRun wsX10_of := goodIn_r _ [13, 14, 15, 113, 114, 115, 116, 117, 118, 119, 120, 121, 122, 123, 124, 125, 126, 127, 128, 129, 130, 131, 132, 133, 134, 135, 136, 137, 138, 139, 140, 141, 142, 143, 144, 145, 146, 147, 148, 149] (by decide +kernel) (by decide +kernel)
set_option maxRecDepth 20000 in
theorem gX10_expRun_X10_of : GoodIn wsX10_expRun (wsV RX10 187 RX10 yX10_of wsX10_of) := goodIn_app (goodIn_of _ (by decide +kernel)) ggX10_expRun_X10_of
theorem dX10_expRun_0 : decode cX10_expRun 0 = .ok (.aload_n 0, 1) := by decide +kernel
theorem dX10_expRun_1 : decode cX10_expRun 1 = .ok (.invokevirtual 280, 3) := by decide +kernel
theorem dX10_expRun_4 : decode cX10_expRun 4 = .ok (.aload_n 0, 1) := by decide +kernel
theorem dX10_expRun_5 : decode cX10_expRun 5 = .ok (.sipush 128, 3) := by decide +kernel
theorem dX10_expRun_8 : decode cX10_expRun 8 = .ok (.invokevirtual 187, 3) := by decide +kernel
theorem dX10_expRun_11 : decode cX10_expRun 11 = .ok (.ireturn, 1) := by decide +kernel
set_option maxRecDepth 20000 in
theorem ggX10_expBy_X10_asWas : GoodIn wsX10_expBy wsX10_asWas := goodIn_r _ [6, 7, 8, 9, 5, 10, 11, 12, 13, 14, 15, 16, 17, 18, 19, 20, 21, 22, 23, 24, 25, 26, 27, 28, 29, 30, 31, 32, 148, 149, 150, 151, 152, 153, 154, 155, 156, 157, 158, 159, 160, 161, 162, 163, 164, 165, 166, 167, 168, 169, 170, 171, 172, 173, 174, 175, 176, 177, 178, 179, 180, 181, 182, 183, 184] (by decide +kernel) (by decide +kernel)
set_option maxRecDepth 20000 in
theorem gX10_expBy_X10_asWas : GoodIn wsX10_expBy (wsV RX10 311 RX10 yX10_asWas wsX10_asWas) := goodIn_app (goodIn_of _ (by decide +kernel)) ggX10_expBy_X10_asWas
set_option maxRecDepth 20000 in
theorem ggX10_expBy_X10_limitOf : GoodIn wsX10_expBy wsX10_limitOf := goodIn_r _ [35] (by decide +kernel) (by decide +kernel)
set_option maxRecDepth 20000 in
theorem gX10_expBy_X10_limitOf : GoodIn wsX10_expBy (va_wsS RX10 152 yX10_limitOf wsX10_limitOf) := goodIn_app (goodIn_of _ (by decide +kernel)) ggX10_expBy_X10_limitOf
set_option maxRecDepth 20000 in
theorem ggX10_expBy_X10_expRun : GoodIn wsX10_expBy wsX10_expRun := goodIn_r _ [39, 40, 41, 42, 5, 43, 44, 45, 46, 47, 17, 18, 19, 20, 16, 11, 48, 49, 50, 51, 52, 53, 54, 55, 56, 57, 58, 59, 60, 61, 62, 63, 64, 65, 66, 67, 68, 69, 70, 71, 72, 73, 74, 75, 76, 77, 78, 79, 80, 81, 82, 83, 84, 85, 21, 22, 23, 24, 86, 87, 88, 89, 90, 1, 91, 92, 93, 94, 95, 96, 97, 98, 99, 100, 101, 102, 103, 104, 105, 106, 107, 108, 109, 110, 111, 112, 113, 114, 115, 116, 117, 118, 119, 120, 121, 122, 123, 124, 125, 126, 127, 128, 129, 130, 131, 132, 133, 134, 135, 136, 137, 138, 139, 148, 149, 150, 151, 152, 153, 154, 155, 156, 157, 158, 159, 160, 161, 162, 163, 164, 165, 166, 167, 168, 169, 170, 171, 172, 173, 174, 175, 176, 177, 178, 179, 180, 181, 182, 183, 184] (by decide +kernel) (by decide +kernel)
set_option maxRecDepth 20000 in
theorem gX10_expBy_X10_expRun : GoodIn wsX10_expBy (wsV RX10 314 RX10 yX10_expRun wsX10_expRun) := goodIn_app (goodIn_of _ (by decide +kernel)) ggX10_expBy_X10_expRun
set_option maxRecDepth 20000 in
theorem ggX10_expBy_X10_asItIs : GoodIn wsX10_expBy wsX10_asItIs := goodIn_r _ [143, 11, 144, 145, 146, 5, 147, 73, 52, 62, 106, 1, 90, 33, 34, 35, 148, 149, 150, 151, 152, 153, 154, 155, 156, 157, 158, 159, 160, 161, 162, 163, 164, 165, 166, 167, 168, 169, 170, 171, 172, 173, 174, 175, 176, 177, 178, 179, 180, 181, 182, 183, 184] (by decide +kernel) (by decide +kernel)
set_option maxRecDepth 20000 in
theorem gX10_expBy_X10_asItIs : GoodIn wsX10_expBy (wsV RX10 289 RX10 yX10_asItIs wsX10_asItIs) := goodIn_app (goodIn_of _ (by decide +kernel)) ggX10_expBy_X10_asItIs
theorem dX10_expBy_0 : decode cX10_expBy 0 = .ok (.aload_n 0, 1) := by decide +kernel
theorem dX10_expBy_1 : decode cX10_expBy 1 = .ok (.invokevirtual 311, 3) := by decide +kernel
theorem dX10_expBy_4 : decode cX10_expBy 4 = .ok (.aload_n 0, 1) := by decide +kernel
theorem dX10_expBy_5 : decode cX10_expBy 5 = .ok (.iload_n 1, 1) := by decide +kernel
theorem dX10_expBy_6 : decode cX10_expBy 6 = .ok (.invokestatic 152, 3) := by decide +kernel
theorem dX10_expBy_9 : decode cX10_expBy 9 = .ok (.putfield 175, 3) := by decide +kernel
theorem dX10_expBy_12 : decode cX10_expBy 12 = .ok (.aload_n 0, 1) := by decide +kernel
theorem dX10_expBy_13 : decode cX10_expBy 13 = .ok (.invokevirtual 314, 3) := by decide +kernel
theorem dX10_expBy_16 : decode cX10_expBy 16 = .ok (.istore_n 2, 1) := by decide +kernel
theorem dX10_expBy_17 : decode cX10_expBy 17 = .ok (.aload_n 0, 1) := by decide +kernel
theorem dX10_expBy_18 : decode cX10_expBy 18 = .ok (.invokevirtual 289, 3) := by decide +kernel
theorem dX10_expBy_21 : decode cX10_expBy 21 = .ok (.iload_n 2, 1) := by decide +kernel
theorem dX10_expBy_22 : decode cX10_expBy 22 = .ok (.ireturn, 1) := by decide +kernel
set_option maxRecDepth 20000 in
theorem ggX10_sweep_X10_isIn : GoodIn wsX10_sweep wsX10_isIn := goodIn_r _ [5] (by decide +kernel) (by decide +kernel)
set_option maxRecDepth 20000 in
theorem gX10_sweep_X10_isIn : GoodIn wsX10_sweep (va_wsS RX10 138 yX10_isIn wsX10_isIn) := goodIn_app (goodIn_of _ (by decide +kernel)) ggX10_sweep_X10_isIn
set_option maxRecDepth 20000 in
theorem ggX10_sweep_X10_expBy : GoodIn wsX10_sweep wsX10_expBy := goodIn_r _ [9, 10, 11, 12, 13, 4, 14, 15, 16, 17, 18, 19, 20, 21, 22, 23, 24, 25, 26, 27, 28, 29, 30, 31, 32, 33, 34, 35, 36, 37, 38, 39, 40, 41, 42, 43, 44, 45, 46, 47, 48, 49, 50, 51, 52, 53, 54, 55, 56, 57, 58, 59, 60, 61, 62, 63, 64, 65, 66, 67, 68, 69, 70, 71, 72, 73, 74, 75, 76, 77, 78, 79, 80, 81, 82, 83, 84, 85, 86, 87, 88, 89, 90, 91, 92, 93, 94, 95, 96, 97, 98, 99, 100, 101, 102, 103, 104, 105, 106, 107, 108, 109, 110, 111, 112, 113, 114, 115, 116, 117, 118, 119, 120, 121, 122, 123, 124, 125, 126, 127, 128, 129, 130, 131, 132, 133, 134, 135, 136, 137, 138, 139, 140, 141, 142, 143, 144, 145, 146, 147, 148, 149, 150, 151, 152, 153, 154, 155, 156, 157, 158, 159, 160, 161, 162, 163, 164, 165, 166, 167, 168, 169, 170, 171, 172, 173, 174, 175, 176, 177, 178, 179, 180, 181, 182, 183, 184, 185, 186, 187, 188, 189, 190, 191, 192] (by decide +kernel) (by decide +kernel)
set_option maxRecDepth 20000 in
theorem gX10_sweep_X10_expBy : GoodIn wsX10_sweep (wsV RX10 317 RX10 yX10_expBy wsX10_expBy) := goodIn_app (goodIn_of _ (by decide +kernel)) ggX10_sweep_X10_expBy
theorem dX10_sweep_0 : decode cX10_sweep 0 = .ok (.aload_n 0, 1) := by decide +kernel
theorem dX10_sweep_1 : decode cX10_sweep 1 = .ok (.iconst 0, 1) := by decide +kernel
theorem dX10_sweep_2 : decode cX10_sweep 2 = .ok (.putfield 70, 3) := by decide +kernel
theorem dX10_sweep_5 : decode cX10_sweep 5 = .ok (.iload_n 1, 1) := by decide +kernel
theorem dX10_sweep_6 : decode cX10_sweep 6 = .ok (.bipush 8, 2) := by decide +kernel
theorem dX10_sweep_8 : decode cX10_sweep 8 = .ok (.bipush 16, 2) := by decide +kernel
theorem dX10_sweep_10 : decode cX10_sweep 10 = .ok (.invokestatic 138, 3) := by decide +kernel
theorem dX10_sweep_13 : decode cX10_sweep 13 = .ok (.ifCond .eq 11, 3) := by decide +kernel
theorem dX10_sweep_16 : decode cX10_sweep 16 = .ok (.aload_n 0, 1) := by decide +kernel
theorem dX10_sweep_17 : decode cX10_sweep 17 = .ok (.iload_n 1, 1) := by decide +kernel
theorem dX10_sweep_18 : decode cX10_sweep 18 = .ok (.invokevirtual 317, 3) := by decide +kernel
theorem dX10_sweep_21 : decode cX10_sweep 21 = .ok (.goto 4, 3) := by decide +kernel
theorem dX10_sweep_24 : decode cX10_sweep 24 = .ok (.iconst (-1), 1) := by decide +kernel
theorem dX10_sweep_25 : decode cX10_sweep 25 = .ok (.ireturn, 1) := by decide +kernel
set_option maxRecDepth 20000 in
theorem ggX10_bits_X10_expBy : GoodIn wsX10_bits wsX10_expBy := goodIn_r _ [6, 7, 8, 9, 10, 5, 11, 12, 13, 14, 15, 16, 17, 18, 19, 20, 21, 22, 23, 24, 25, 26, 27, 28, 29, 30, 31, 32, 33, 34, 35, 36, 37, 38, 39, 40, 41, 42, 43, 44, 45, 46, 47, 48, 49, 50, 51, 52, 53, 54, 55, 56, 57, 58, 59, 60, 61, 62, 63, 64, 65, 66, 67, 68, 69, 70, 71, 72, 73, 74, 75, 76, 77, 78, 79, 80, 81, 82, 83, 84, 85, 86, 87, 88, 89, 90, 91, 92, 93, 94, 95, 96, 97, 98, 99, 100, 101, 102, 103, 104, 105, 106, 107, 108, 109, 110, 111, 112, 113, 114, 115, 116, 117, 118, 119, 120, 121, 122, 123, 124, 125, 126, 127, 128, 129, 130, 131, 132, 133, 134, 135, 136, 137, 138, 139, 140, 141, 142, 143, 144, 145, 146, 147, 148, 149, 150, 151, 152, 153, 154, 155, 156, 157, 158, 159, 160, 161, 162, 163, 164, 165, 166, 167, 168, 169, 170, 171, 172, 173, 174, 175, 176, 177, 178, 179, 180, 181, 182, 183, 184, 185, 186, 187, 188, 189] (by decide +kernel) (by decide +kernel)
set_option maxRecDepth 20000 in
theorem gX10_bits_X10_expBy : GoodIn wsX10_bits (wsV RX10 317 RX10 yX10_expBy wsX10_expBy) := goodIn_app (goodIn_of _ (by decide +kernel)) ggX10_bits_X10_expBy
theorem dX10_bits_0 : decode cX10_bits 0 = .ok (.aload_n 0, 1) := by decide +kernel
theorem dX10_bits_1 : decode cX10_bits 1 = .ok (.iconst 0, 1) := by decide +kernel
theorem dX10_bits_2 : decode cX10_bits 2 = .ok (.putfield 70, 3) := by decide +kernel
theorem dX10_bits_5 : decode cX10_bits 5 = .ok (.bipush 8, 2) := by decide +kernel
theorem dX10_bits_7 : decode cX10_bits 7 = .ok (.istore_n 1, 1) := by decide +kernel
theorem dX10_bits_8 : decode cX10_bits 8 = .ok (.iload_n 1, 1) := by decide +kernel
theorem dX10_bits_9 : decode cX10_bits 9 = .ok (.bipush 16, 2) := by decide +kernel
theorem dX10_bits_11 : decode cX10_bits 11 = .ok (.if_icmp .gt 19, 3) := by decide +kernel
theorem dX10_bits_14 : decode cX10_bits 14 = .ok (.aload_n 0, 1) := by decide +kernel
theorem dX10_bits_15 : decode cX10_bits 15 = .ok (.iload_n 1, 1) := by decide +kernel
theorem dX10_bits_16 : decode cX10_bits 16 = .ok (.invokevirtual 317, 3) := by decide +kernel
theorem dX10_bits_19 : decode cX10_bits 19 = .ok (.ifCond .ne 5, 3) := by decide +kernel
theorem dX10_bits_22 : decode cX10_bits 22 = .ok (.iload_n 1, 1) := by decide +kernel
theorem dX10_bits_23 : decode cX10_bits 23 = .ok (.ireturn, 1) := by decide +kernel
theorem dX10_bits_24 : decode cX10_bits 24 = .ok (.iinc 1 1, 3) := by decide +kernel
theorem dX10_bits_27 : decode cX10_bits 27 = .ok (.goto (-19), 3) := by decide +kernel
theorem dX10_bits_30 : decode cX10_bits 30 = .ok (.bipush (-2), 2) := by decide +kernel
theorem dX10_bits_32 : decode cX10_bits 32 = .ok (.ireturn, 1) := by decide +kernel
set_option maxRecDepth 20000 in
theorem ggX10_grown_X10_isIn : GoodIn wsX10_grown wsX10_isIn := goodIn_r _ [6] (by decide +kernel) (by decide +kernel)
set_option maxRecDepth 20000 in
theorem gX10_grown_X10_isIn : GoodIn wsX10_grown (va_wsS RX10 138 yX10_isIn wsX10_isIn) := goodIn_app (goodIn_of _ (by decide +kernel)) ggX10_grown_X10_isIn
set_option maxRecDepth 20000 in
theorem ggX10_grown_X10_asWas : GoodIn wsX10_grown wsX10_asWas := goodIn_r _ [10, 11, 12, 13, 5, 14, 15, 16, 17, 18, 19, 20, 21, 22, 23, 24, 25, 26, 27, 28, 29, 30, 31, 32, 33, 34, 35, 36, 144, 145, 146, 147, 148, 149, 150, 151, 152, 153, 154, 155, 156, 157, 158, 159, 160, 161, 162, 163, 164, 165, 166, 167, 168, 169, 170, 171, 172, 173, 174, 175, 176, 177, 178, 179, 180] (by decide +kernel) (by decide +kernel)
set_option maxRecDepth 20000 in
theorem gX10_grown_X10_asWas : GoodIn wsX10_grown (wsV RX10 311 RX10 yX10_asWas wsX10_asWas) := goodIn_app (goodIn_of _ (by decide +kernel)) ggX10_grown_X10_asWas
set_option maxRecDepth 20000 in
theorem ggX10_grown_X10_isDone : GoodIn wsX10_grown wsX10_isDone := goodIn_r _ [40, 21, 22, 23, 5, 24, 20, 15, 41, 42, 43, 44, 45, 46, 47, 48, 49, 50, 144, 145, 146, 147, 148, 149, 150, 151, 152, 153, 154, 155, 156, 157, 158, 159, 160, 161, 162, 163, 164, 165, 166, 167, 168, 169, 170, 171, 172, 173, 174, 175, 176, 177, 178, 179, 180] (by decide +kernel) (by decide +kernel)
set_option maxRecDepth 20000 in
theorem gX10_grown_X10_isDone : GoodIn wsX10_grown (wsV RX10 268 RX10 yX10_isDone wsX10_isDone) := goodIn_app (goodIn_of _ (by decide +kernel)) ggX10_grown_X10_isDone
set_option maxRecDepth 20000 in
theorem ggX10_grown_X10_beats : GoodIn wsX10_grown wsX10_beats := goodIn_r _ [54, 55, 21, 22, 23, 5, 24, 20, 15, 56, 57, 58, 59, 60, 61, 62, 63, 64, 65, 66, 67, 68, 69, 70, 41, 42, 43, 44, 45, 46, 47, 48, 49, 50, 71, 72, 73, 74, 75, 76, 77, 78, 25, 26, 27, 28, 79, 80, 81, 82, 2, 83, 84, 85, 86, 87, 88, 89, 90, 91, 92, 93, 94, 95, 96, 97, 98, 99, 100, 101, 102, 103, 104, 105, 106, 107, 108, 109, 110, 111, 112, 113, 114, 115, 116, 117, 118, 119, 120, 121, 122, 123, 124, 125, 126, 127, 128, 129, 130, 131, 132, 144, 145, 146, 147, 148, 149, 150, 151, 152, 153, 154, 155, 156, 157, 158, 159, 160, 161, 162, 163, 164, 165, 166, 167, 168, 169, 170, 171, 172, 173, 174, 175, 176, 177, 178, 179, 180] (by decide +kernel) (by decide +kernel)
set_option maxRecDepth 20000 in
theorem gX10_grown_X10_beats : GoodIn wsX10_grown (wsV RX10 271 RX10 yX10_beats wsX10_beats) := goodIn_app (goodIn_of _ (by decide +kernel)) ggX10_grown_X10_beats
set_option maxRecDepth 20000 in
theorem ggX10_grown_X10_largestNow : GoodIn wsX10_grown wsX10_largestNow := goodIn_r _ [87, 62, 63, 64, 5, 65, 66, 88, 89, 90, 91, 21, 22, 23, 24, 20, 15, 92, 93, 94, 144, 145, 146, 147, 148, 149, 150, 151, 152, 153, 154, 155, 156, 157, 158, 159, 160, 161, 162, 163, 164, 165, 166, 167, 168, 169, 170, 171, 172, 173, 174, 175, 176, 177, 178, 179, 180] (by decide +kernel) (by decide +kernel)
set_option maxRecDepth 20000 in
theorem gX10_grown_X10_largestNow : GoodIn wsX10_grown (wsV RX10 237 RX10 yX10_largestNow wsX10_largestNow) := goodIn_app (goodIn_of _ (by decide +kernel)) ggX10_grown_X10_largestNow
set_option maxRecDepth 20000 in
theorem ggX10_grown_X10_asItIs : GoodIn wsX10_grown wsX10_asItIs := goodIn_r _ [136, 15, 137, 138, 139, 5, 140, 66, 45, 55, 99, 83, 2, 141, 142, 143, 144, 145, 146, 147, 148, 149, 150, 151, 152, 153, 154, 155, 156, 157, 158, 159, 160, 161, 162, 163, 164, 165, 166, 167, 168, 169, 170, 171, 172, 173, 174, 175, 176, 177, 178, 179, 180] (by decide +kernel) (by decide +kernel)
set_option maxRecDepth 20000 in
theorem gX10_grown_X10_asItIs : GoodIn wsX10_grown (wsV RX10 289 RX10 yX10_asItIs wsX10_asItIs) := goodIn_app (goodIn_of _ (by decide +kernel)) ggX10_grown_X10_asItIs
theorem dX10_grown_0 : decode cX10_grown 0 = .ok (.aload_n 0, 1) := by decide +kernel
theorem dX10_grown_1 : decode cX10_grown 1 = .ok (.iconst 0, 1) := by decide +kernel
theorem dX10_grown_2 : decode cX10_grown 2 = .ok (.putfield 70, 3) := by decide +kernel
theorem dX10_grown_5 : decode cX10_grown 5 = .ok (.iload_n 1, 1) := by decide +kernel
theorem dX10_grown_6 : decode cX10_grown 6 = .ok (.iconst 0, 1) := by decide +kernel
theorem dX10_grown_7 : decode cX10_grown 7 = .ok (.iconst 5, 1) := by decide +kernel
theorem dX10_grown_8 : decode cX10_grown 8 = .ok (.invokestatic 138, 3) := by decide +kernel
theorem dX10_grown_11 : decode cX10_grown 11 = .ok (.ifCond .ne 5, 3) := by decide +kernel
theorem dX10_grown_14 : decode cX10_grown 14 = .ok (.iconst (-1), 1) := by decide +kernel
theorem dX10_grown_15 : decode cX10_grown 15 = .ok (.ireturn, 1) := by decide +kernel
theorem dX10_grown_16 : decode cX10_grown 16 = .ok (.aload_n 0, 1) := by decide +kernel
theorem dX10_grown_17 : decode cX10_grown 17 = .ok (.invokevirtual 311, 3) := by decide +kernel
theorem dX10_grown_20 : decode cX10_grown 20 = .ok (.aload_n 0, 1) := by decide +kernel
theorem dX10_grown_21 : decode cX10_grown 21 = .ok (.iconst 0, 1) := by decide +kernel
theorem dX10_grown_22 : decode cX10_grown 22 = .ok (.putfield 178, 3) := by decide +kernel
theorem dX10_grown_25 : decode cX10_grown 25 = .ok (.iconst 0, 1) := by decide +kernel
theorem dX10_grown_26 : decode cX10_grown 26 = .ok (.istore_n 2, 1) := by decide +kernel
theorem dX10_grown_27 : decode cX10_grown 27 = .ok (.iload_n 2, 1) := by decide +kernel
theorem dX10_grown_28 : decode cX10_grown 28 = .ok (.iload_n 1, 1) := by decide +kernel
theorem dX10_grown_29 : decode cX10_grown 29 = .ok (.if_icmp .ge 21, 3) := by decide +kernel
theorem dX10_grown_32 : decode cX10_grown 32 = .ok (.aload_n 0, 1) := by decide +kernel
theorem dX10_grown_33 : decode cX10_grown 33 = .ok (.invokevirtual 268, 3) := by decide +kernel
theorem dX10_grown_36 : decode cX10_grown 36 = .ok (.ifCond .ne 14, 3) := by decide +kernel
theorem dX10_grown_39 : decode cX10_grown 39 = .ok (.aload_n 0, 1) := by decide +kernel
theorem dX10_grown_40 : decode cX10_grown 40 = .ok (.invokevirtual 271, 3) := by decide +kernel
theorem dX10_grown_43 : decode cX10_grown 43 = .ok (.pop, 1) := by decide +kernel
theorem dX10_grown_44 : decode cX10_grown 44 = .ok (.iinc 2 1, 3) := by decide +kernel
theorem dX10_grown_47 : decode cX10_grown 47 = .ok (.goto (-20), 3) := by decide +kernel
theorem dX10_grown_50 : decode cX10_grown 50 = .ok (.aload_n 0, 1) := by decide +kernel
theorem dX10_grown_51 : decode cX10_grown 51 = .ok (.invokevirtual 237, 3) := by decide +kernel
theorem dX10_grown_54 : decode cX10_grown 54 = .ok (.istore_n 2, 1) := by decide +kernel
theorem dX10_grown_55 : decode cX10_grown 55 = .ok (.aload_n 0, 1) := by decide +kernel
theorem dX10_grown_56 : decode cX10_grown 56 = .ok (.invokevirtual 289, 3) := by decide +kernel
theorem dX10_grown_59 : decode cX10_grown 59 = .ok (.iload_n 2, 1) := by decide +kernel
theorem dX10_grown_60 : decode cX10_grown 60 = .ok (.ireturn, 1) := by decide +kernel
set_option maxRecDepth 20000 in
theorem ggX10_directOf_X10_size : GoodIn wsX10_directOf wsX10_size := goodIn_r _ [5, 6, 26, 27, 28, 29, 30, 31, 32, 33, 34, 35, 36, 37, 38, 39, 40, 41, 42, 43, 44, 45, 46, 47, 48, 49, 50, 51, 52, 53, 54, 55, 56, 57, 58, 59, 60, 61, 62] (by decide +kernel) (by decide +kernel)
set_option maxRecDepth 20000 in
theorem gX10_directOf_X10_size : GoodIn wsX10_directOf (wsV RX10 196 RX10 yX10_size wsX10_size) := goodIn_app (goodIn_of _ (by decide +kernel)) ggX10_directOf_X10_size
set_option maxRecDepth 20000 in
theorem ggX10_directOf_X10_of : GoodIn wsX10_directOf wsX10_of := goodIn_r _ [10, 11, 12, 26, 27, 28, 29, 30, 31, 32, 33, 34, 35, 36, 37, 38, 39, 40, 41, 42, 43, 44, 45, 46, 47, 48, 49, 50, 51, 52, 53, 54, 55, 56, 57, 58, 59, 60, 61, 62] (by decide +kernel) (by decide +kernel)
set_option maxRecDepth 20000 in
theorem gX10_directOf_X10_of : GoodIn wsX10_directOf (wsV RX10 187 RX10 yX10_of wsX10_of) := goodIn_app (goodIn_of _ (by decide +kernel)) ggX10_directOf_X10_of
set_option maxRecDepth 20000 in
theorem ggX10_directOf_X10_cosOf : GoodIn wsX10_directOf wsX10_cosOf := goodIn_r _ [16, 1, 2, 3, 4, 5, 6, 17, 18, 19, 20, 21, 26, 27, 28, 29, 30, 31, 32, 33, 34, 35, 36, 37, 38, 39, 40, 41, 42, 43, 44, 45, 46, 47, 48, 49, 50, 51, 52, 53, 54, 55, 56, 57, 58, 59, 60, 61, 62] (by decide +kernel) (by decide +kernel)
set_option maxRecDepth 20000 in
theorem gX10_directOf_X10_cosOf : GoodIn wsX10_directOf (wsV RX10 207 RX10 yX10_cosOf wsX10_cosOf) := goodIn_app (goodIn_of _ (by decide +kernel)) ggX10_directOf_X10_cosOf
set_option maxRecDepth 20000 in
theorem ggX10_directOf_X10_sinOf : GoodIn wsX10_directOf wsX10_sinOf := goodIn_r _ [25, 1, 2, 3, 4, 5, 6, 17, 18, 19, 20, 21, 26, 27, 28, 29, 30, 31, 32, 33, 34, 35, 36, 37, 38, 39, 40, 41, 42, 43, 44, 45, 46, 47, 48, 49, 50, 51, 52, 53, 54, 55, 56, 57, 58, 59, 60, 61, 62] (by decide +kernel) (by decide +kernel)
set_option maxRecDepth 20000 in
theorem gX10_directOf_X10_sinOf : GoodIn wsX10_directOf (wsV RX10 210 RX10 yX10_sinOf wsX10_sinOf) := goodIn_app (goodIn_of _ (by decide +kernel)) ggX10_directOf_X10_sinOf
theorem dX10_directOf_0 : decode cX10_directOf 0 = .ok (.lconst 0, 1) := by decide +kernel
theorem dX10_directOf_1 : decode cX10_directOf 1 = .ok (.lstore_n 3, 1) := by decide +kernel
theorem dX10_directOf_2 : decode cX10_directOf 2 = .ok (.iconst 0, 1) := by decide +kernel
theorem dX10_directOf_3 : decode cX10_directOf 3 = .ok (.istore 5, 2) := by decide +kernel
theorem dX10_directOf_5 : decode cX10_directOf 5 = .ok (.iload 5, 2) := by decide +kernel
theorem dX10_directOf_7 : decode cX10_directOf 7 = .ok (.aload_n 0, 1) := by decide +kernel
theorem dX10_directOf_8 : decode cX10_directOf 8 = .ok (.invokevirtual 196, 3) := by decide +kernel
theorem dX10_directOf_11 : decode cX10_directOf 11 = .ok (.if_icmp .ge 96, 3) := by decide +kernel
theorem dX10_directOf_14 : decode cX10_directOf 14 = .ok (.iload 5, 2) := by decide +kernel
theorem dX10_directOf_16 : decode cX10_directOf 16 = .ok (.iload_n 1, 1) := by decide +kernel
theorem dX10_directOf_17 : decode cX10_directOf 17 = .ok (.imul, 1) := by decide +kernel
theorem dX10_directOf_18 : decode cX10_directOf 18 = .ok (.aload_n 0, 1) := by decide +kernel
theorem dX10_directOf_19 : decode cX10_directOf 19 = .ok (.invokevirtual 196, 3) := by decide +kernel
theorem dX10_directOf_22 : decode cX10_directOf 22 = .ok (.irem, 1) := by decide +kernel
theorem dX10_directOf_23 : decode cX10_directOf 23 = .ok (.istore 6, 2) := by decide +kernel
theorem dX10_directOf_25 : decode cX10_directOf 25 = .ok (.aload_n 0, 1) := by decide +kernel
theorem dX10_directOf_26 : decode cX10_directOf 26 = .ok (.bipush 64, 2) := by decide +kernel
theorem dX10_directOf_28 : decode cX10_directOf 28 = .ok (.iload 5, 2) := by decide +kernel
theorem dX10_directOf_30 : decode cX10_directOf 30 = .ok (.iadd, 1) := by decide +kernel
theorem dX10_directOf_31 : decode cX10_directOf 31 = .ok (.invokevirtual 187, 3) := by decide +kernel
theorem dX10_directOf_34 : decode cX10_directOf 34 = .ok (.i2l, 1) := by decide +kernel
theorem dX10_directOf_35 : decode cX10_directOf 35 = .ok (.lstore 7, 2) := by decide +kernel
theorem dX10_directOf_37 : decode cX10_directOf 37 = .ok (.aload_n 0, 1) := by decide +kernel
theorem dX10_directOf_38 : decode cX10_directOf 38 = .ok (.bipush 96, 2) := by decide +kernel
theorem dX10_directOf_40 : decode cX10_directOf 40 = .ok (.iload 5, 2) := by decide +kernel
theorem dX10_directOf_42 : decode cX10_directOf 42 = .ok (.iadd, 1) := by decide +kernel
theorem dX10_directOf_43 : decode cX10_directOf 43 = .ok (.invokevirtual 187, 3) := by decide +kernel
theorem dX10_directOf_46 : decode cX10_directOf 46 = .ok (.i2l, 1) := by decide +kernel
theorem dX10_directOf_47 : decode cX10_directOf 47 = .ok (.lstore 9, 2) := by decide +kernel
theorem dX10_directOf_49 : decode cX10_directOf 49 = .ok (.lload_n 3, 1) := by decide +kernel
theorem dX10_directOf_50 : decode cX10_directOf 50 = .ok (.iload_n 2, 1) := by decide +kernel
theorem dX10_directOf_51 : decode cX10_directOf 51 = .ok (.ifCond .ne 27, 3) := by decide +kernel
theorem dX10_directOf_54 : decode cX10_directOf 54 = .ok (.lload 7, 2) := by decide +kernel
theorem dX10_directOf_56 : decode cX10_directOf 56 = .ok (.aload_n 0, 1) := by decide +kernel
theorem dX10_directOf_57 : decode cX10_directOf 57 = .ok (.iload 6, 2) := by decide +kernel
theorem dX10_directOf_59 : decode cX10_directOf 59 = .ok (.invokevirtual 207, 3) := by decide +kernel
theorem dX10_directOf_62 : decode cX10_directOf 62 = .ok (.i2l, 1) := by decide +kernel
theorem dX10_directOf_63 : decode cX10_directOf 63 = .ok (.lmul, 1) := by decide +kernel
theorem dX10_directOf_64 : decode cX10_directOf 64 = .ok (.lload 9, 2) := by decide +kernel
theorem dX10_directOf_66 : decode cX10_directOf 66 = .ok (.aload_n 0, 1) := by decide +kernel
theorem dX10_directOf_67 : decode cX10_directOf 67 = .ok (.iload 6, 2) := by decide +kernel
theorem dX10_directOf_69 : decode cX10_directOf 69 = .ok (.invokevirtual 210, 3) := by decide +kernel
theorem dX10_directOf_72 : decode cX10_directOf 72 = .ok (.i2l, 1) := by decide +kernel
theorem dX10_directOf_73 : decode cX10_directOf 73 = .ok (.lmul, 1) := by decide +kernel
theorem dX10_directOf_74 : decode cX10_directOf 74 = .ok (.ladd, 1) := by decide +kernel
theorem dX10_directOf_75 : decode cX10_directOf 75 = .ok (.goto 24, 3) := by decide +kernel
theorem dX10_directOf_78 : decode cX10_directOf 78 = .ok (.lload 9, 2) := by decide +kernel
theorem dX10_directOf_80 : decode cX10_directOf 80 = .ok (.aload_n 0, 1) := by decide +kernel
theorem dX10_directOf_81 : decode cX10_directOf 81 = .ok (.iload 6, 2) := by decide +kernel
theorem dX10_directOf_83 : decode cX10_directOf 83 = .ok (.invokevirtual 207, 3) := by decide +kernel
theorem dX10_directOf_86 : decode cX10_directOf 86 = .ok (.i2l, 1) := by decide +kernel
theorem dX10_directOf_87 : decode cX10_directOf 87 = .ok (.lmul, 1) := by decide +kernel
theorem dX10_directOf_88 : decode cX10_directOf 88 = .ok (.lload 7, 2) := by decide +kernel
theorem dX10_directOf_90 : decode cX10_directOf 90 = .ok (.aload_n 0, 1) := by decide +kernel
theorem dX10_directOf_91 : decode cX10_directOf 91 = .ok (.iload 6, 2) := by decide +kernel
theorem dX10_directOf_93 : decode cX10_directOf 93 = .ok (.invokevirtual 210, 3) := by decide +kernel
theorem dX10_directOf_96 : decode cX10_directOf 96 = .ok (.i2l, 1) := by decide +kernel
theorem dX10_directOf_97 : decode cX10_directOf 97 = .ok (.lmul, 1) := by decide +kernel
theorem dX10_directOf_98 : decode cX10_directOf 98 = .ok (.lsub, 1) := by decide +kernel
theorem dX10_directOf_99 : decode cX10_directOf 99 = .ok (.ladd, 1) := by decide +kernel
theorem dX10_directOf_100 : decode cX10_directOf 100 = .ok (.lstore_n 3, 1) := by decide +kernel
theorem dX10_directOf_101 : decode cX10_directOf 101 = .ok (.iinc 5 1, 3) := by decide +kernel
theorem dX10_directOf_104 : decode cX10_directOf 104 = .ok (.goto (-99), 3) := by decide +kernel
theorem dX10_directOf_107 : decode cX10_directOf 107 = .ok (.lload_n 3, 1) := by decide +kernel
theorem dX10_directOf_108 : decode cX10_directOf 108 = .ok (.lreturn, 1) := by decide +kernel
set_option maxRecDepth 20000 in
theorem ggX10_direct_X10_isPlace : GoodIn wsX10_direct wsX10_isPlace := goodIn_r _ [7, 8, 9, 10, 6, 11, 12, 39, 40, 41, 42, 43, 44, 45, 46, 47, 48, 49, 50, 51, 52, 53, 54, 55, 56, 57, 58, 59, 60, 61, 62, 63, 64, 65, 66, 67, 68, 69, 70, 71, 72, 73, 74, 75] (by decide +kernel) (by decide +kernel)
set_option maxRecDepth 20000 in
theorem gX10_direct_X10_isPlace : GoodIn wsX10_direct (wsV RX10 203 RX10 yX10_isPlace wsX10_isPlace) := goodIn_app (goodIn_of _ (by decide +kernel)) ggX10_direct_X10_isPlace
set_option maxRecDepth 20000 in
theorem ggX10_direct_X10_isIn : GoodIn wsX10_direct wsX10_isIn := goodIn_r _ [15] (by decide +kernel) (by decide +kernel)
set_option maxRecDepth 20000 in
theorem gX10_direct_X10_isIn : GoodIn wsX10_direct (va_wsS RX10 138 yX10_isIn wsX10_isIn) := goodIn_app (goodIn_of _ (by decide +kernel)) ggX10_direct_X10_isIn
set_option maxRecDepth 20000 in
theorem ggX10_direct_X10_directOf : GoodIn wsX10_direct wsX10_directOf := goodIn_r _ [19, 8, 9, 10, 6, 11, 12, 20, 21, 22, 23, 24, 25, 26, 27, 28, 29, 30, 31, 32, 33, 34, 35, 36, 37, 38, 39, 40, 41, 42, 43, 44, 45, 46, 47, 48, 49, 50, 51, 52, 53, 54, 55, 56, 57, 58, 59, 60, 61, 62, 63, 64, 65, 66, 67, 68, 69, 70, 71, 72, 73, 74, 75] (by decide +kernel) (by decide +kernel)
set_option maxRecDepth 20000 in
theorem gX10_direct_X10_directOf : GoodIn wsX10_direct (wsV RX10 320 RX10 yX10_directOf wsX10_directOf) := goodIn_app (goodIn_of _ (by decide +kernel)) ggX10_direct_X10_directOf
theorem dX10_direct_0 : decode cX10_direct 0 = .ok (.aload_n 0, 1) := by decide +kernel
theorem dX10_direct_1 : decode cX10_direct 1 = .ok (.iconst 0, 1) := by decide +kernel
theorem dX10_direct_2 : decode cX10_direct 2 = .ok (.putfield 70, 3) := by decide +kernel
theorem dX10_direct_5 : decode cX10_direct 5 = .ok (.aload_n 0, 1) := by decide +kernel
theorem dX10_direct_6 : decode cX10_direct 6 = .ok (.iload_n 1, 1) := by decide +kernel
theorem dX10_direct_7 : decode cX10_direct 7 = .ok (.invokevirtual 203, 3) := by decide +kernel
theorem dX10_direct_10 : decode cX10_direct 10 = .ok (.ifCond .eq 21, 3) := by decide +kernel
theorem dX10_direct_13 : decode cX10_direct 13 = .ok (.iload_n 2, 1) := by decide +kernel
theorem dX10_direct_14 : decode cX10_direct 14 = .ok (.iconst 0, 1) := by decide +kernel
theorem dX10_direct_15 : decode cX10_direct 15 = .ok (.iconst 1, 1) := by decide +kernel
theorem dX10_direct_16 : decode cX10_direct 16 = .ok (.invokestatic 138, 3) := by decide +kernel
theorem dX10_direct_19 : decode cX10_direct 19 = .ok (.ifCond .eq 12, 3) := by decide +kernel
theorem dX10_direct_22 : decode cX10_direct 22 = .ok (.aload_n 0, 1) := by decide +kernel
theorem dX10_direct_23 : decode cX10_direct 23 = .ok (.iload_n 1, 1) := by decide +kernel
theorem dX10_direct_24 : decode cX10_direct 24 = .ok (.iload_n 2, 1) := by decide +kernel
theorem dX10_direct_25 : decode cX10_direct 25 = .ok (.invokevirtual 320, 3) := by decide +kernel
theorem dX10_direct_28 : decode cX10_direct 28 = .ok (.goto 6, 3) := by decide +kernel
theorem dX10_direct_31 : decode cX10_direct 31 = .ok (.ldc2_w 324, 3) := by decide +kernel
theorem dX10_direct_34 : decode cX10_direct 34 = .ok (.lreturn, 1) := by decide +kernel
theorem dX10_apartBy_0 : decode cX10_apartBy 0 = .ok (.lload_n 0, 1) := by decide +kernel
theorem dX10_apartBy_1 : decode cX10_apartBy 1 = .ok (.lload_n 2, 1) := by decide +kernel
theorem dX10_apartBy_2 : decode cX10_apartBy 2 = .ok (.lcmp, 1) := by decide +kernel
theorem dX10_apartBy_3 : decode cX10_apartBy 3 = .ok (.ifCond .le 9, 3) := by decide +kernel
theorem dX10_apartBy_6 : decode cX10_apartBy 6 = .ok (.lload_n 0, 1) := by decide +kernel
theorem dX10_apartBy_7 : decode cX10_apartBy 7 = .ok (.lload_n 2, 1) := by decide +kernel
theorem dX10_apartBy_8 : decode cX10_apartBy 8 = .ok (.lsub, 1) := by decide +kernel
theorem dX10_apartBy_9 : decode cX10_apartBy 9 = .ok (.goto 6, 3) := by decide +kernel
theorem dX10_apartBy_12 : decode cX10_apartBy 12 = .ok (.lload_n 2, 1) := by decide +kernel
theorem dX10_apartBy_13 : decode cX10_apartBy 13 = .ok (.lload_n 0, 1) := by decide +kernel
theorem dX10_apartBy_14 : decode cX10_apartBy 14 = .ok (.lsub, 1) := by decide +kernel
theorem dX10_apartBy_15 : decode cX10_apartBy 15 = .ok (.lreturn, 1) := by decide +kernel
set_option maxRecDepth 20000 in
theorem ggX10_offOf_X10_of : GoodIn wsX10_offOf wsX10_of := goodIn_r _ [6, 7, 8, 34, 35, 36, 37, 38, 39, 40, 41, 42, 43, 44, 45, 46, 47, 48, 49, 50, 51, 52, 53, 54, 55, 56, 57, 58, 59, 60, 61, 62, 63, 64, 65, 66, 67, 68, 69, 70] (by decide +kernel) (by decide +kernel)
set_option maxRecDepth 20000 in
theorem gX10_offOf_X10_of : GoodIn wsX10_offOf (wsV RX10 187 RX10 yX10_of wsX10_of) := goodIn_app (goodIn_of _ (by decide +kernel)) ggX10_offOf_X10_of
set_option maxRecDepth 20000 in
theorem ggX10_offOf_X10_directOf : GoodIn wsX10_offOf wsX10_directOf := goodIn_r _ [12, 13, 14, 15, 5, 16, 17, 2, 3, 4, 6, 7, 8, 18, 19, 20, 21, 22, 23, 24, 25, 26, 27, 28, 29, 30, 34, 35, 36, 37, 38, 39, 40, 41, 42, 43, 44, 45, 46, 47, 48, 49, 50, 51, 52, 53, 54, 55, 56, 57, 58, 59, 60, 61, 62, 63, 64, 65, 66, 67, 68, 69, 70] (by decide +kernel) (by decide +kernel)
set_option maxRecDepth 20000 in
theorem gX10_offOf_X10_directOf : GoodIn wsX10_offOf (wsV RX10 320 RX10 yX10_directOf wsX10_directOf) := goodIn_app (goodIn_of _ (by decide +kernel)) ggX10_offOf_X10_directOf
set_option maxRecDepth 20000 in
theorem ggX10_offOf_X10_apartBy : GoodIn wsX10_offOf wsX10_apartBy := goodIn_r _ [33] (by decide +kernel) (by decide +kernel)
set_option maxRecDepth 20000 in
theorem gX10_offOf_X10_apartBy : GoodIn wsX10_offOf (va_wsS RX10 326 yX10_apartBy wsX10_apartBy) := goodIn_app (goodIn_of _ (by decide +kernel)) ggX10_offOf_X10_apartBy
theorem dX10_offOf_0 : decode cX10_offOf 0 = .ok (.aload_n 0, 1) := by decide +kernel
theorem dX10_offOf_1 : decode cX10_offOf 1 = .ok (.iload_n 1, 1) := by decide +kernel
theorem dX10_offOf_2 : decode cX10_offOf 2 = .ok (.invokevirtual 187, 3) := by decide +kernel
theorem dX10_offOf_5 : decode cX10_offOf 5 = .ok (.i2l, 1) := by decide +kernel
theorem dX10_offOf_6 : decode cX10_offOf 6 = .ok (.ldc2_w 301, 3) := by decide +kernel
theorem dX10_offOf_9 : decode cX10_offOf 9 = .ok (.lmul, 1) := by decide +kernel
theorem dX10_offOf_10 : decode cX10_offOf 10 = .ok (.aload_n 0, 1) := by decide +kernel
theorem dX10_offOf_11 : decode cX10_offOf 11 = .ok (.sipush 128, 3) := by decide +kernel
theorem dX10_offOf_14 : decode cX10_offOf 14 = .ok (.invokevirtual 187, 3) := by decide +kernel
theorem dX10_offOf_17 : decode cX10_offOf 17 = .ok (.lshl, 1) := by decide +kernel
theorem dX10_offOf_18 : decode cX10_offOf 18 = .ok (.aload_n 0, 1) := by decide +kernel
theorem dX10_offOf_19 : decode cX10_offOf 19 = .ok (.iload_n 1, 1) := by decide +kernel
theorem dX10_offOf_20 : decode cX10_offOf 20 = .ok (.iconst 0, 1) := by decide +kernel
theorem dX10_offOf_21 : decode cX10_offOf 21 = .ok (.invokevirtual 320, 3) := by decide +kernel
theorem dX10_offOf_24 : decode cX10_offOf 24 = .ok (.invokestatic 326, 3) := by decide +kernel
theorem dX10_offOf_27 : decode cX10_offOf 27 = .ok (.lstore_n 2, 1) := by decide +kernel
theorem dX10_offOf_28 : decode cX10_offOf 28 = .ok (.aload_n 0, 1) := by decide +kernel
theorem dX10_offOf_29 : decode cX10_offOf 29 = .ok (.bipush 32, 2) := by decide +kernel
theorem dX10_offOf_31 : decode cX10_offOf 31 = .ok (.iload_n 1, 1) := by decide +kernel
theorem dX10_offOf_32 : decode cX10_offOf 32 = .ok (.iadd, 1) := by decide +kernel
theorem dX10_offOf_33 : decode cX10_offOf 33 = .ok (.invokevirtual 187, 3) := by decide +kernel
theorem dX10_offOf_36 : decode cX10_offOf 36 = .ok (.i2l, 1) := by decide +kernel
theorem dX10_offOf_37 : decode cX10_offOf 37 = .ok (.ldc2_w 301, 3) := by decide +kernel
theorem dX10_offOf_40 : decode cX10_offOf 40 = .ok (.lmul, 1) := by decide +kernel
theorem dX10_offOf_41 : decode cX10_offOf 41 = .ok (.aload_n 0, 1) := by decide +kernel
theorem dX10_offOf_42 : decode cX10_offOf 42 = .ok (.sipush 128, 3) := by decide +kernel
theorem dX10_offOf_45 : decode cX10_offOf 45 = .ok (.invokevirtual 187, 3) := by decide +kernel
theorem dX10_offOf_48 : decode cX10_offOf 48 = .ok (.lshl, 1) := by decide +kernel
theorem dX10_offOf_49 : decode cX10_offOf 49 = .ok (.aload_n 0, 1) := by decide +kernel
theorem dX10_offOf_50 : decode cX10_offOf 50 = .ok (.iload_n 1, 1) := by decide +kernel
theorem dX10_offOf_51 : decode cX10_offOf 51 = .ok (.iconst 1, 1) := by decide +kernel
theorem dX10_offOf_52 : decode cX10_offOf 52 = .ok (.invokevirtual 320, 3) := by decide +kernel
theorem dX10_offOf_55 : decode cX10_offOf 55 = .ok (.invokestatic 326, 3) := by decide +kernel
theorem dX10_offOf_58 : decode cX10_offOf 58 = .ok (.lstore 4, 2) := by decide +kernel
theorem dX10_offOf_60 : decode cX10_offOf 60 = .ok (.lload_n 2, 1) := by decide +kernel
theorem dX10_offOf_61 : decode cX10_offOf 61 = .ok (.lload 4, 2) := by decide +kernel
theorem dX10_offOf_63 : decode cX10_offOf 63 = .ok (.lcmp, 1) := by decide +kernel
theorem dX10_offOf_64 : decode cX10_offOf 64 = .ok (.ifCond .le 7, 3) := by decide +kernel
theorem dX10_offOf_67 : decode cX10_offOf 67 = .ok (.lload_n 2, 1) := by decide +kernel
theorem dX10_offOf_68 : decode cX10_offOf 68 = .ok (.goto 5, 3) := by decide +kernel
theorem dX10_offOf_71 : decode cX10_offOf 71 = .ok (.lload 4, 2) := by decide +kernel
theorem dX10_offOf_73 : decode cX10_offOf 73 = .ok (.lreturn, 1) := by decide +kernel
set_option maxRecDepth 20000 in
theorem ggX10_off_X10_isPlace : GoodIn wsX10_off wsX10_isPlace := goodIn_r _ [8, 9, 10, 11, 7, 12, 13, 63, 64, 65, 66, 67, 68, 69, 70, 71, 72, 73, 74, 75, 76, 77, 78, 79, 80, 81, 82, 83, 84, 85, 86, 87, 88, 89, 90, 91, 92, 93, 94, 95, 96, 97, 98, 99] (by decide +kernel) (by decide +kernel)
set_option maxRecDepth 20000 in
theorem gX10_off_X10_isPlace : GoodIn wsX10_off (wsV RX10 203 RX10 yX10_isPlace wsX10_isPlace) := goodIn_app (goodIn_of _ (by decide +kernel)) ggX10_off_X10_isPlace
set_option maxRecDepth 20000 in
theorem ggX10_off_X10_isForward : GoodIn wsX10_off wsX10_isForward := goodIn_r _ [17, 18, 19, 20, 7, 21, 22, 23, 24, 25, 26, 27, 28, 29, 30, 31, 32, 33, 34, 35, 36, 37, 63, 64, 65, 66, 67, 68, 69, 70, 71, 72, 73, 74, 75, 76, 77, 78, 79, 80, 81, 82, 83, 84, 85, 86, 87, 88, 89, 90, 91, 92, 93, 94, 95, 96, 97, 98, 99] (by decide +kernel) (by decide +kernel)
set_option maxRecDepth 20000 in
theorem gX10_off_X10_isForward : GoodIn wsX10_off (wsV RX10 283 RX10 yX10_isForward wsX10_isForward) := goodIn_app (goodIn_of _ (by decide +kernel)) ggX10_off_X10_isForward
set_option maxRecDepth 20000 in
theorem ggX10_off_X10_offOf : GoodIn wsX10_off wsX10_offOf := goodIn_r _ [41, 42, 22, 23, 24, 7, 25, 26, 27, 43, 44, 45, 46, 9, 10, 11, 12, 13, 47, 48, 49, 50, 51, 52, 53, 54, 55, 56, 57, 58, 59, 60, 61, 62, 63, 64, 65, 66, 67, 68, 69, 70, 71, 72, 73, 74, 75, 76, 77, 78, 79, 80, 81, 82, 83, 84, 85, 86, 87, 88, 89, 90, 91, 92, 93, 94, 95, 96, 97, 98, 99] (by decide +kernel) (by decide +kernel)
set_option maxRecDepth 20000 in
theorem gX10_off_X10_offOf : GoodIn wsX10_off (wsV RX10 332 RX10 yX10_offOf wsX10_offOf) := goodIn_app (goodIn_of _ (by decide +kernel)) ggX10_off_X10_offOf
theorem dX10_off_0 : decode cX10_off 0 = .ok (.aload_n 0, 1) := by decide +kernel
theorem dX10_off_1 : decode cX10_off 1 = .ok (.iconst 0, 1) := by decide +kernel
theorem dX10_off_2 : decode cX10_off 2 = .ok (.putfield 70, 3) := by decide +kernel
theorem dX10_off_5 : decode cX10_off 5 = .ok (.aload_n 0, 1) := by decide +kernel
theorem dX10_off_6 : decode cX10_off 6 = .ok (.iload_n 1, 1) := by decide +kernel
theorem dX10_off_7 : decode cX10_off 7 = .ok (.invokevirtual 203, 3) := by decide +kernel
theorem dX10_off_10 : decode cX10_off 10 = .ok (.ifCond .ne 7, 3) := by decide +kernel
theorem dX10_off_13 : decode cX10_off 13 = .ok (.ldc2_w 330, 3) := by decide +kernel
theorem dX10_off_16 : decode cX10_off 16 = .ok (.lreturn, 1) := by decide +kernel
theorem dX10_off_17 : decode cX10_off 17 = .ok (.aload_n 0, 1) := by decide +kernel
theorem dX10_off_18 : decode cX10_off 18 = .ok (.invokevirtual 283, 3) := by decide +kernel
theorem dX10_off_21 : decode cX10_off 21 = .ok (.ifCond .eq 11, 3) := by decide +kernel
theorem dX10_off_24 : decode cX10_off 24 = .ok (.aload_n 0, 1) := by decide +kernel
theorem dX10_off_25 : decode cX10_off 25 = .ok (.iload_n 1, 1) := by decide +kernel
theorem dX10_off_26 : decode cX10_off 26 = .ok (.invokevirtual 332, 3) := by decide +kernel
theorem dX10_off_29 : decode cX10_off 29 = .ok (.goto 6, 3) := by decide +kernel
theorem dX10_off_32 : decode cX10_off 32 = .ok (.ldc2_w 336, 3) := by decide +kernel
theorem dX10_off_35 : decode cX10_off 35 = .ok (.lreturn, 1) := by decide +kernel
set_option maxRecDepth 20000 in
theorem ggX10_worstAt_X10_offOf : GoodIn wsX10_worstAt wsX10_offOf := goodIn_r _ [5, 6, 7, 8, 9, 4, 10, 11, 12, 13, 14, 15, 16, 17, 18, 19, 20, 21, 22, 23, 24, 25, 26, 27, 28, 29, 30, 31, 32, 33, 34, 35, 36, 37, 38, 39, 40, 41, 42, 43, 44, 45, 46, 47, 48, 49, 50, 51, 52, 53, 54, 55, 56, 57, 58, 59, 60, 61, 62, 63, 64, 65, 66, 67, 68, 69, 70, 71, 72, 73, 74] (by decide +kernel) (by decide +kernel)
set_option maxRecDepth 20000 in
theorem gX10_worstAt_X10_offOf : GoodIn wsX10_worstAt (wsV RX10 332 RX10 yX10_offOf wsX10_offOf) := goodIn_app (goodIn_of _ (by decide +kernel)) ggX10_worstAt_X10_offOf
set_option maxRecDepth 20000 in
theorem ggX10_worstAt_X10_size : GoodIn wsX10_worstAt wsX10_size := goodIn_r _ [20, 21, 38, 39, 40, 41, 42, 43, 44, 45, 46, 47, 48, 49, 50, 51, 52, 53, 54, 55, 56, 57, 58, 59, 60, 61, 62, 63, 64, 65, 66, 67, 68, 69, 70, 71, 72, 73, 74] (by decide +kernel) (by decide +kernel)
set_option maxRecDepth 20000 in
theorem gX10_worstAt_X10_size : GoodIn wsX10_worstAt (wsV RX10 196 RX10 yX10_size wsX10_size) := goodIn_app (goodIn_of _ (by decide +kernel)) ggX10_worstAt_X10_size
theorem dX10_worstAt_0 : decode cX10_worstAt 0 = .ok (.iconst 0, 1) := by decide +kernel
theorem dX10_worstAt_1 : decode cX10_worstAt 1 = .ok (.istore_n 1, 1) := by decide +kernel
theorem dX10_worstAt_2 : decode cX10_worstAt 2 = .ok (.aload_n 0, 1) := by decide +kernel
theorem dX10_worstAt_3 : decode cX10_worstAt 3 = .ok (.iconst 0, 1) := by decide +kernel
theorem dX10_worstAt_4 : decode cX10_worstAt 4 = .ok (.invokevirtual 332, 3) := by decide +kernel
theorem dX10_worstAt_7 : decode cX10_worstAt 7 = .ok (.lstore_n 2, 1) := by decide +kernel
theorem dX10_worstAt_8 : decode cX10_worstAt 8 = .ok (.iconst 1, 1) := by decide +kernel
theorem dX10_worstAt_9 : decode cX10_worstAt 9 = .ok (.istore 4, 2) := by decide +kernel
theorem dX10_worstAt_11 : decode cX10_worstAt 11 = .ok (.iload 4, 2) := by decide +kernel
theorem dX10_worstAt_13 : decode cX10_worstAt 13 = .ok (.aload_n 0, 1) := by decide +kernel
theorem dX10_worstAt_14 : decode cX10_worstAt 14 = .ok (.invokevirtual 196, 3) := by decide +kernel
theorem dX10_worstAt_17 : decode cX10_worstAt 17 = .ok (.if_icmp .ge 45, 3) := by decide +kernel
theorem dX10_worstAt_20 : decode cX10_worstAt 20 = .ok (.aload_n 0, 1) := by decide +kernel
theorem dX10_worstAt_21 : decode cX10_worstAt 21 = .ok (.iload 4, 2) := by decide +kernel
theorem dX10_worstAt_23 : decode cX10_worstAt 23 = .ok (.invokevirtual 332, 3) := by decide +kernel
theorem dX10_worstAt_26 : decode cX10_worstAt 26 = .ok (.lstore 5, 2) := by decide +kernel
theorem dX10_worstAt_28 : decode cX10_worstAt 28 = .ok (.lload 5, 2) := by decide +kernel
theorem dX10_worstAt_30 : decode cX10_worstAt 30 = .ok (.lload_n 2, 1) := by decide +kernel
theorem dX10_worstAt_31 : decode cX10_worstAt 31 = .ok (.lcmp, 1) := by decide +kernel
theorem dX10_worstAt_32 : decode cX10_worstAt 32 = .ok (.ifCond .le 8, 3) := by decide +kernel
theorem dX10_worstAt_35 : decode cX10_worstAt 35 = .ok (.iload 4, 2) := by decide +kernel
theorem dX10_worstAt_37 : decode cX10_worstAt 37 = .ok (.goto 4, 3) := by decide +kernel
theorem dX10_worstAt_40 : decode cX10_worstAt 40 = .ok (.iload_n 1, 1) := by decide +kernel
theorem dX10_worstAt_41 : decode cX10_worstAt 41 = .ok (.istore_n 1, 1) := by decide +kernel
theorem dX10_worstAt_42 : decode cX10_worstAt 42 = .ok (.lload 5, 2) := by decide +kernel
theorem dX10_worstAt_44 : decode cX10_worstAt 44 = .ok (.lload_n 2, 1) := by decide +kernel
theorem dX10_worstAt_45 : decode cX10_worstAt 45 = .ok (.lcmp, 1) := by decide +kernel
theorem dX10_worstAt_46 : decode cX10_worstAt 46 = .ok (.ifCond .le 8, 3) := by decide +kernel
theorem dX10_worstAt_49 : decode cX10_worstAt 49 = .ok (.lload 5, 2) := by decide +kernel
theorem dX10_worstAt_51 : decode cX10_worstAt 51 = .ok (.goto 4, 3) := by decide +kernel
theorem dX10_worstAt_54 : decode cX10_worstAt 54 = .ok (.lload_n 2, 1) := by decide +kernel
theorem dX10_worstAt_55 : decode cX10_worstAt 55 = .ok (.lstore_n 2, 1) := by decide +kernel
theorem dX10_worstAt_56 : decode cX10_worstAt 56 = .ok (.iinc 4 1, 3) := by decide +kernel
theorem dX10_worstAt_59 : decode cX10_worstAt 59 = .ok (.goto (-48), 3) := by decide +kernel
theorem dX10_worstAt_62 : decode cX10_worstAt 62 = .ok (.iload_n 1, 1) := by decide +kernel
theorem dX10_worstAt_63 : decode cX10_worstAt 63 = .ok (.ireturn, 1) := by decide +kernel
set_option maxRecDepth 20000 in
theorem ggX10_worst_X10_isIn : GoodIn wsX10_worst wsX10_isIn := goodIn_r _ [7] (by decide +kernel) (by decide +kernel)
set_option maxRecDepth 20000 in
theorem gX10_worst_X10_isIn : GoodIn wsX10_worst (va_wsS RX10 138 yX10_isIn wsX10_isIn) := goodIn_app (goodIn_of _ (by decide +kernel)) ggX10_worst_X10_isIn
set_option maxRecDepth 20000 in
theorem ggX10_worst_X10_isForward : GoodIn wsX10_worst wsX10_isForward := goodIn_r _ [11, 12, 13, 14, 6, 15, 16, 17, 18, 19, 20, 21, 22, 23, 24, 25, 26, 27, 28, 29, 30, 31, 66, 67, 68, 69, 70, 71, 72, 73, 74, 75, 76, 77, 78, 79, 80, 81, 82, 83, 84, 85, 86, 87, 88, 89, 90, 91, 92, 93, 94, 95, 96, 97, 98, 99, 100, 101, 102] (by decide +kernel) (by decide +kernel)
set_option maxRecDepth 20000 in
theorem gX10_worst_X10_isForward : GoodIn wsX10_worst (wsV RX10 283 RX10 yX10_isForward wsX10_isForward) := goodIn_app (goodIn_of _ (by decide +kernel)) ggX10_worst_X10_isForward
set_option maxRecDepth 20000 in
theorem ggX10_worst_X10_worstAt : GoodIn wsX10_worst wsX10_worstAt := goodIn_r _ [35, 36, 37, 38, 6, 39, 40, 16, 17, 18, 19, 20, 21, 41, 42, 43, 44, 45, 46, 47, 48, 49, 50, 51, 52, 53, 54, 55, 56, 57, 58, 59, 60, 61, 62, 63, 64, 65, 66, 67, 68, 69, 70, 71, 72, 73, 74, 75, 76, 77, 78, 79, 80, 81, 82, 83, 84, 85, 86, 87, 88, 89, 90, 91, 92, 93, 94, 95, 96, 97, 98, 99, 100, 101, 102] (by decide +kernel) (by decide +kernel)
set_option maxRecDepth 20000 in
theorem gX10_worst_X10_worstAt : GoodIn wsX10_worst (wsV RX10 338 RX10 yX10_worstAt wsX10_worstAt) := goodIn_app (goodIn_of _ (by decide +kernel)) ggX10_worst_X10_worstAt
set_option maxRecDepth 20000 in
theorem ggX10_worst_X10_offOf : GoodIn wsX10_worst wsX10_offOf := goodIn_r _ [39, 40, 16, 17, 18, 6, 19, 20, 21, 41, 42, 43, 44, 45, 46, 47, 48, 49, 50, 51, 52, 53, 54, 55, 56, 57, 58, 59, 60, 61, 62, 63, 64, 65, 66, 67, 68, 69, 70, 71, 72, 73, 74, 75, 76, 77, 78, 79, 80, 81, 82, 83, 84, 85, 86, 87, 88, 89, 90, 91, 92, 93, 94, 95, 96, 97, 98, 99, 100, 101, 102] (by decide +kernel) (by decide +kernel)
set_option maxRecDepth 20000 in
theorem gX10_worst_X10_offOf : GoodIn wsX10_worst (wsV RX10 332 RX10 yX10_offOf wsX10_offOf) := goodIn_app (goodIn_of _ (by decide +kernel)) ggX10_worst_X10_offOf
theorem dX10_worst_0 : decode cX10_worst 0 = .ok (.aload_n 0, 1) := by decide +kernel
theorem dX10_worst_1 : decode cX10_worst 1 = .ok (.iconst 0, 1) := by decide +kernel
theorem dX10_worst_2 : decode cX10_worst 2 = .ok (.putfield 70, 3) := by decide +kernel
theorem dX10_worst_5 : decode cX10_worst 5 = .ok (.iload_n 1, 1) := by decide +kernel
theorem dX10_worst_6 : decode cX10_worst 6 = .ok (.iconst 0, 1) := by decide +kernel
theorem dX10_worst_7 : decode cX10_worst 7 = .ok (.iconst 1, 1) := by decide +kernel
theorem dX10_worst_8 : decode cX10_worst 8 = .ok (.invokestatic 138, 3) := by decide +kernel
theorem dX10_worst_11 : decode cX10_worst 11 = .ok (.ifCond .ne 7, 3) := by decide +kernel
theorem dX10_worst_14 : decode cX10_worst 14 = .ok (.ldc2_w 330, 3) := by decide +kernel
theorem dX10_worst_17 : decode cX10_worst 17 = .ok (.lreturn, 1) := by decide +kernel
theorem dX10_worst_18 : decode cX10_worst 18 = .ok (.aload_n 0, 1) := by decide +kernel
theorem dX10_worst_19 : decode cX10_worst 19 = .ok (.invokevirtual 283, 3) := by decide +kernel
theorem dX10_worst_22 : decode cX10_worst 22 = .ok (.ifCond .ne 7, 3) := by decide +kernel
theorem dX10_worst_25 : decode cX10_worst 25 = .ok (.ldc2_w 336, 3) := by decide +kernel
theorem dX10_worst_28 : decode cX10_worst 28 = .ok (.lreturn, 1) := by decide +kernel
theorem dX10_worst_29 : decode cX10_worst 29 = .ok (.iload_n 1, 1) := by decide +kernel
theorem dX10_worst_30 : decode cX10_worst 30 = .ok (.ifCond .ne 14, 3) := by decide +kernel
theorem dX10_worst_33 : decode cX10_worst 33 = .ok (.aload_n 0, 1) := by decide +kernel
theorem dX10_worst_34 : decode cX10_worst 34 = .ok (.aload_n 0, 1) := by decide +kernel
theorem dX10_worst_35 : decode cX10_worst 35 = .ok (.invokevirtual 338, 3) := by decide +kernel
theorem dX10_worst_38 : decode cX10_worst 38 = .ok (.invokevirtual 332, 3) := by decide +kernel
theorem dX10_worst_41 : decode cX10_worst 41 = .ok (.goto 8, 3) := by decide +kernel
theorem dX10_worst_44 : decode cX10_worst 44 = .ok (.aload_n 0, 1) := by decide +kernel
theorem dX10_worst_45 : decode cX10_worst 45 = .ok (.invokevirtual 338, 3) := by decide +kernel
theorem dX10_worst_48 : decode cX10_worst 48 = .ok (.i2l, 1) := by decide +kernel
theorem dX10_worst_49 : decode cX10_worst 49 = .ok (.lreturn, 1) := by decide +kernel
set_option maxRecDepth 20000 in
theorem ggX10_best_X10_asWas : GoodIn wsX10_best wsX10_asWas := goodIn_r _ [9, 10, 11, 12, 8, 13, 14, 15, 16, 17, 18, 19, 20, 21, 22, 23, 24, 25, 26, 27, 28, 29, 30, 31, 32, 33, 34, 35, 164, 165, 166, 167, 168, 169, 170, 171, 172, 173, 174, 175, 176, 177, 178, 179, 180, 181, 182, 183, 184, 185, 186, 187, 188, 189, 190, 191, 192, 193, 194, 195, 196, 197, 198, 199, 200] (by decide +kernel) (by decide +kernel)
set_option maxRecDepth 20000 in
theorem gX10_best_X10_asWas : GoodIn wsX10_best (wsV RX10 311 RX10 yX10_asWas wsX10_asWas) := goodIn_app (goodIn_of _ (by decide +kernel)) ggX10_best_X10_asWas
set_option maxRecDepth 20000 in
theorem ggX10_best_X10_isOf : GoodIn wsX10_best wsX10_isOf := goodIn_r _ [38] (by decide +kernel) (by decide +kernel)
set_option maxRecDepth 20000 in
theorem gX10_best_X10_isOf : GoodIn wsX10_best (va_wsS RX10 341 yX10_isOf wsX10_isOf) := goodIn_app (goodIn_of _ (by decide +kernel)) ggX10_best_X10_isOf
set_option maxRecDepth 20000 in
theorem ggX10_best_X10_beatsAll : GoodIn wsX10_best wsX10_beatsAll := goodIn_r _ [42, 43, 44, 45, 8, 46, 20, 21, 22, 23, 19, 14, 47, 48, 49, 50, 3, 51, 52, 53, 54, 55, 56, 57, 58, 59, 2, 60, 61, 62, 63, 64, 65, 66, 67, 68, 69, 70, 71, 72, 73, 74, 75, 76, 77, 78, 79, 80, 81, 82, 24, 25, 26, 27, 83, 84, 85, 86, 87, 88, 89, 90, 91, 92, 93, 94, 95, 96, 97, 98, 99, 100, 101, 102, 103, 4, 104, 105, 106, 107, 108, 109, 110, 111, 112, 113, 114, 115, 116, 117, 118, 119, 120, 121, 122, 123, 124, 125, 126, 127, 128, 129, 130, 131, 132, 133, 134, 135, 136, 164, 165, 166, 167, 168, 169, 170, 171, 172, 173, 174, 175, 176, 177, 178, 179, 180, 181, 182, 183, 184, 185, 186, 187, 188, 189, 190, 191, 192, 193, 194, 195, 196, 197, 198, 199, 200] (by decide +kernel) (by decide +kernel)
set_option maxRecDepth 20000 in
theorem gX10_best_X10_beatsAll : GoodIn wsX10_best (wsV RX10 280 RX10 yX10_beatsAll wsX10_beatsAll) := goodIn_app (goodIn_of _ (by decide +kernel)) ggX10_best_X10_beatsAll
set_option maxRecDepth 20000 in
theorem ggX10_best_X10_worstAt : GoodIn wsX10_best wsX10_worstAt := goodIn_r _ [140, 141, 142, 143, 8, 144, 145, 20, 21, 22, 23, 19, 14, 146, 147, 148, 149, 66, 67, 68, 69, 70, 116, 117, 118, 119, 120, 121, 122, 123, 124, 125, 126, 127, 128, 150, 151, 152, 164, 165, 166, 167, 168, 169, 170, 171, 172, 173, 174, 175, 176, 177, 178, 179, 180, 181, 182, 183, 184, 185, 186, 187, 188, 189, 190, 191, 192, 193, 194, 195, 196, 197, 198, 199, 200] (by decide +kernel) (by decide +kernel)
set_option maxRecDepth 20000 in
theorem gX10_best_X10_worstAt : GoodIn wsX10_best (wsV RX10 338 RX10 yX10_worstAt wsX10_worstAt) := goodIn_app (goodIn_of _ (by decide +kernel)) ggX10_best_X10_worstAt
set_option maxRecDepth 20000 in
theorem ggX10_best_X10_offOf : GoodIn wsX10_best wsX10_offOf := goodIn_r _ [144, 145, 20, 21, 22, 8, 23, 19, 14, 146, 147, 148, 149, 66, 67, 68, 69, 70, 116, 117, 118, 119, 120, 121, 122, 123, 124, 125, 126, 127, 128, 150, 151, 152, 164, 165, 166, 167, 168, 169, 170, 171, 172, 173, 174, 175, 176, 177, 178, 179, 180, 181, 182, 183, 184, 185, 186, 187, 188, 189, 190, 191, 192, 193, 194, 195, 196, 197, 198, 199, 200] (by decide +kernel) (by decide +kernel)
set_option maxRecDepth 20000 in
theorem gX10_best_X10_offOf : GoodIn wsX10_best (wsV RX10 332 RX10 yX10_offOf wsX10_offOf) := goodIn_app (goodIn_of _ (by decide +kernel)) ggX10_best_X10_offOf
set_option maxRecDepth 20000 in
theorem ggX10_best_X10_asItIs : GoodIn wsX10_best wsX10_asItIs := goodIn_r _ [156, 14, 157, 158, 159, 8, 160, 70, 3, 2, 4, 88, 87, 161, 162, 163, 164, 165, 166, 167, 168, 169, 170, 171, 172, 173, 174, 175, 176, 177, 178, 179, 180, 181, 182, 183, 184, 185, 186, 187, 188, 189, 190, 191, 192, 193, 194, 195, 196, 197, 198, 199, 200] (by decide +kernel) (by decide +kernel)
set_option maxRecDepth 20000 in
theorem gX10_best_X10_asItIs : GoodIn wsX10_best (wsV RX10 289 RX10 yX10_asItIs wsX10_asItIs) := goodIn_app (goodIn_of _ (by decide +kernel)) ggX10_best_X10_asItIs
theorem dX10_best_0 : decode cX10_best 0 = .ok (.aload_n 0, 1) := by decide +kernel
theorem dX10_best_1 : decode cX10_best 1 = .ok (.iconst 0, 1) := by decide +kernel
theorem dX10_best_2 : decode cX10_best 2 = .ok (.putfield 70, 3) := by decide +kernel
theorem dX10_best_5 : decode cX10_best 5 = .ok (.iconst 0, 1) := by decide +kernel
theorem dX10_best_6 : decode cX10_best 6 = .ok (.istore_n 1, 1) := by decide +kernel
theorem dX10_best_7 : decode cX10_best 7 = .ok (.lconst 0, 1) := by decide +kernel
theorem dX10_best_8 : decode cX10_best 8 = .ok (.lstore_n 2, 1) := by decide +kernel
theorem dX10_best_9 : decode cX10_best 9 = .ok (.iconst 0, 1) := by decide +kernel
theorem dX10_best_10 : decode cX10_best 10 = .ok (.istore 4, 2) := by decide +kernel
theorem dX10_best_12 : decode cX10_best 12 = .ok (.iload 4, 2) := by decide +kernel
theorem dX10_best_14 : decode cX10_best 14 = .ok (.bipush 8, 2) := by decide +kernel
theorem dX10_best_16 : decode cX10_best 16 = .ok (.if_icmp .ge 83, 3) := by decide +kernel
theorem dX10_best_19 : decode cX10_best 19 = .ok (.aload_n 0, 1) := by decide +kernel
theorem dX10_best_20 : decode cX10_best 20 = .ok (.invokevirtual 311, 3) := by decide +kernel
theorem dX10_best_23 : decode cX10_best 23 = .ok (.aload_n 0, 1) := by decide +kernel
theorem dX10_best_24 : decode cX10_best 24 = .ok (.iload 4, 2) := by decide +kernel
theorem dX10_best_26 : decode cX10_best 26 = .ok (.iconst 4, 1) := by decide +kernel
theorem dX10_best_27 : decode cX10_best 27 = .ok (.idiv, 1) := by decide +kernel
theorem dX10_best_28 : decode cX10_best 28 = .ok (.putfield 169, 3) := by decide +kernel
theorem dX10_best_31 : decode cX10_best 31 = .ok (.aload_n 0, 1) := by decide +kernel
theorem dX10_best_32 : decode cX10_best 32 = .ok (.iload 4, 2) := by decide +kernel
theorem dX10_best_34 : decode cX10_best 34 = .ok (.iconst 1, 1) := by decide +kernel
theorem dX10_best_35 : decode cX10_best 35 = .ok (.invokestatic 341, 3) := by decide +kernel
theorem dX10_best_38 : decode cX10_best 38 = .ok (.ifCond .eq 7, 3) := by decide +kernel
theorem dX10_best_41 : decode cX10_best 41 = .ok (.iconst 4, 1) := by decide +kernel
theorem dX10_best_42 : decode cX10_best 42 = .ok (.goto 4, 3) := by decide +kernel
theorem dX10_best_45 : decode cX10_best 45 = .ok (.iconst 2, 1) := by decide +kernel
theorem dX10_best_46 : decode cX10_best 46 = .ok (.putfield 166, 3) := by decide +kernel
theorem dX10_best_49 : decode cX10_best 49 = .ok (.aload_n 0, 1) := by decide +kernel
theorem dX10_best_50 : decode cX10_best 50 = .ok (.iload 4, 2) := by decide +kernel
theorem dX10_best_52 : decode cX10_best 52 = .ok (.iconst 2, 1) := by decide +kernel
theorem dX10_best_53 : decode cX10_best 53 = .ok (.irem, 1) := by decide +kernel
theorem dX10_best_54 : decode cX10_best 54 = .ok (.putfield 172, 3) := by decide +kernel
theorem dX10_best_57 : decode cX10_best 57 = .ok (.aload_n 0, 1) := by decide +kernel
theorem dX10_best_58 : decode cX10_best 58 = .ok (.invokevirtual 280, 3) := by decide +kernel
theorem dX10_best_61 : decode cX10_best 61 = .ok (.aload_n 0, 1) := by decide +kernel
theorem dX10_best_62 : decode cX10_best 62 = .ok (.aload_n 0, 1) := by decide +kernel
theorem dX10_best_63 : decode cX10_best 63 = .ok (.invokevirtual 338, 3) := by decide +kernel
theorem dX10_best_66 : decode cX10_best 66 = .ok (.invokevirtual 332, 3) := by decide +kernel
theorem dX10_best_69 : decode cX10_best 69 = .ok (.lstore 5, 2) := by decide +kernel
theorem dX10_best_71 : decode cX10_best 71 = .ok (.iload 4, 2) := by decide +kernel
theorem dX10_best_73 : decode cX10_best 73 = .ok (.ifCond .eq 10, 3) := by decide +kernel
theorem dX10_best_76 : decode cX10_best 76 = .ok (.lload 5, 2) := by decide +kernel
theorem dX10_best_78 : decode cX10_best 78 = .ok (.lload_n 2, 1) := by decide +kernel
theorem dX10_best_79 : decode cX10_best 79 = .ok (.lcmp, 1) := by decide +kernel
theorem dX10_best_80 : decode cX10_best 80 = .ok (.ifCond .ge 9, 3) := by decide +kernel
theorem dX10_best_83 : decode cX10_best 83 = .ok (.iload 4, 2) := by decide +kernel
theorem dX10_best_85 : decode cX10_best 85 = .ok (.istore_n 1, 1) := by decide +kernel
theorem dX10_best_86 : decode cX10_best 86 = .ok (.lload 5, 2) := by decide +kernel
theorem dX10_best_88 : decode cX10_best 88 = .ok (.lstore_n 2, 1) := by decide +kernel
theorem dX10_best_89 : decode cX10_best 89 = .ok (.aload_n 0, 1) := by decide +kernel
theorem dX10_best_90 : decode cX10_best 90 = .ok (.invokevirtual 289, 3) := by decide +kernel
theorem dX10_best_93 : decode cX10_best 93 = .ok (.iinc 4 1, 3) := by decide +kernel
theorem dX10_best_96 : decode cX10_best 96 = .ok (.goto (-84), 3) := by decide +kernel
theorem dX10_best_99 : decode cX10_best 99 = .ok (.iload_n 1, 1) := by decide +kernel
theorem dX10_best_100 : decode cX10_best 100 = .ok (.ireturn, 1) := by decide +kernel
set_option maxRecDepth 20000 in
theorem ggX10_apart_X10_asWas : GoodIn wsX10_apart wsX10_asWas := goodIn_r _ [8, 9, 10, 11, 7, 12, 13, 14, 15, 16, 17, 18, 19, 20, 21, 22, 23, 24, 25, 26, 27, 28, 29, 30, 31, 32, 33, 34, 149, 150, 151, 152, 153, 154, 155, 156, 157, 158, 159, 160, 161, 162, 163, 164, 165, 166, 167, 168, 169, 170, 171, 172, 173, 174, 175, 176, 177, 178, 179, 180, 181, 182, 183, 184, 185] (by decide +kernel) (by decide +kernel)
set_option maxRecDepth 20000 in
theorem gX10_apart_X10_asWas : GoodIn wsX10_apart (wsV RX10 311 RX10 yX10_asWas wsX10_asWas) := goodIn_app (goodIn_of _ (by decide +kernel)) ggX10_apart_X10_asWas
set_option maxRecDepth 20000 in
theorem ggX10_apart_X10_beatsAll : GoodIn wsX10_apart wsX10_beatsAll := goodIn_r _ [38, 39, 40, 41, 7, 42, 19, 20, 21, 22, 18, 13, 43, 44, 45, 46, 47, 48, 49, 50, 51, 52, 53, 54, 55, 56, 2, 57, 58, 59, 60, 61, 62, 63, 64, 65, 66, 67, 68, 69, 70, 71, 72, 73, 74, 75, 76, 77, 78, 79, 23, 24, 25, 26, 80, 81, 82, 83, 84, 85, 86, 87, 88, 89, 90, 91, 92, 93, 94, 95, 96, 97, 98, 99, 100, 101, 102, 103, 104, 105, 106, 107, 108, 109, 110, 111, 112, 113, 114, 115, 116, 117, 118, 119, 120, 121, 122, 123, 124, 125, 126, 127, 128, 129, 130, 131, 132, 133, 134, 149, 150, 151, 152, 153, 154, 155, 156, 157, 158, 159, 160, 161, 162, 163, 164, 165, 166, 167, 168, 169, 170, 171, 172, 173, 174, 175, 176, 177, 178, 179, 180, 181, 182, 183, 184, 185] (by decide +kernel) (by decide +kernel)
set_option maxRecDepth 20000 in
theorem gX10_apart_X10_beatsAll : GoodIn wsX10_apart (wsV RX10 280 RX10 yX10_beatsAll wsX10_beatsAll) := goodIn_app (goodIn_of _ (by decide +kernel)) ggX10_apart_X10_beatsAll
set_option maxRecDepth 20000 in
theorem ggX10_apart_X10_of : GoodIn wsX10_apart wsX10_of := goodIn_r _ [22, 18, 13, 149, 150, 151, 152, 153, 154, 155, 156, 157, 158, 159, 160, 161, 162, 163, 164, 165, 166, 167, 168, 169, 170, 171, 172, 173, 174, 175, 176, 177, 178, 179, 180, 181, 182, 183, 184, 185] (by decide +kernel) (by decide +kernel)
set_option maxRecDepth 20000 in
theorem gX10_apart_X10_of : GoodIn wsX10_apart (wsV RX10 187 RX10 yX10_of wsX10_of) := goodIn_app (goodIn_of _ (by decide +kernel)) ggX10_apart_X10_of
set_option maxRecDepth 20000 in
theorem ggX10_apart_X10_apartBy : GoodIn wsX10_apart wsX10_apartBy := goodIn_r _ [137] (by decide +kernel) (by decide +kernel)
set_option maxRecDepth 20000 in
theorem gX10_apart_X10_apartBy : GoodIn wsX10_apart (va_wsS RX10 326 yX10_apartBy wsX10_apartBy) := goodIn_app (goodIn_of _ (by decide +kernel)) ggX10_apart_X10_apartBy
set_option maxRecDepth 20000 in
theorem ggX10_apart_X10_asItIs : GoodIn wsX10_apart wsX10_asItIs := goodIn_r _ [141, 13, 142, 143, 144, 7, 145, 67, 47, 2, 101, 85, 84, 146, 147, 148, 149, 150, 151, 152, 153, 154, 155, 156, 157, 158, 159, 160, 161, 162, 163, 164, 165, 166, 167, 168, 169, 170, 171, 172, 173, 174, 175, 176, 177, 178, 179, 180, 181, 182, 183, 184, 185] (by decide +kernel) (by decide +kernel)
set_option maxRecDepth 20000 in
theorem gX10_apart_X10_asItIs : GoodIn wsX10_apart (wsV RX10 289 RX10 yX10_asItIs wsX10_asItIs) := goodIn_app (goodIn_of _ (by decide +kernel)) ggX10_apart_X10_asItIs
theorem dX10_apart_0 : decode cX10_apart 0 = .ok (.aload_n 0, 1) := by decide +kernel
theorem dX10_apart_1 : decode cX10_apart 1 = .ok (.iconst 0, 1) := by decide +kernel
theorem dX10_apart_2 : decode cX10_apart 2 = .ok (.putfield 70, 3) := by decide +kernel
theorem dX10_apart_5 : decode cX10_apart 5 = .ok (.lconst 0, 1) := by decide +kernel
theorem dX10_apart_6 : decode cX10_apart 6 = .ok (.lstore_n 1, 1) := by decide +kernel
theorem dX10_apart_7 : decode cX10_apart 7 = .ok (.iconst 0, 1) := by decide +kernel
theorem dX10_apart_8 : decode cX10_apart 8 = .ok (.istore_n 3, 1) := by decide +kernel
theorem dX10_apart_9 : decode cX10_apart 9 = .ok (.iload_n 3, 1) := by decide +kernel
theorem dX10_apart_10 : decode cX10_apart 10 = .ok (.iconst 2, 1) := by decide +kernel
theorem dX10_apart_11 : decode cX10_apart 11 = .ok (.if_icmp .ge 104, 3) := by decide +kernel
theorem dX10_apart_14 : decode cX10_apart 14 = .ok (.aload_n 0, 1) := by decide +kernel
theorem dX10_apart_15 : decode cX10_apart 15 = .ok (.invokevirtual 311, 3) := by decide +kernel
theorem dX10_apart_18 : decode cX10_apart 18 = .ok (.aload_n 0, 1) := by decide +kernel
theorem dX10_apart_19 : decode cX10_apart 19 = .ok (.iload_n 3, 1) := by decide +kernel
theorem dX10_apart_20 : decode cX10_apart 20 = .ok (.putfield 169, 3) := by decide +kernel
theorem dX10_apart_23 : decode cX10_apart 23 = .ok (.aload_n 0, 1) := by decide +kernel
theorem dX10_apart_24 : decode cX10_apart 24 = .ok (.invokevirtual 280, 3) := by decide +kernel
theorem dX10_apart_27 : decode cX10_apart 27 = .ok (.iconst 0, 1) := by decide +kernel
theorem dX10_apart_28 : decode cX10_apart 28 = .ok (.istore 4, 2) := by decide +kernel
theorem dX10_apart_30 : decode cX10_apart 30 = .ok (.iload 4, 2) := by decide +kernel
theorem dX10_apart_32 : decode cX10_apart 32 = .ok (.bipush 64, 2) := by decide +kernel
theorem dX10_apart_34 : decode cX10_apart 34 = .ok (.if_icmp .ge 71, 3) := by decide +kernel
theorem dX10_apart_37 : decode cX10_apart 37 = .ok (.aload_n 0, 1) := by decide +kernel
theorem dX10_apart_38 : decode cX10_apart 38 = .ok (.iload 4, 2) := by decide +kernel
theorem dX10_apart_40 : decode cX10_apart 40 = .ok (.invokevirtual 187, 3) := by decide +kernel
theorem dX10_apart_43 : decode cX10_apart 43 = .ok (.i2l, 1) := by decide +kernel
theorem dX10_apart_44 : decode cX10_apart 44 = .ok (.aload_n 0, 1) := by decide +kernel
theorem dX10_apart_45 : decode cX10_apart 45 = .ok (.sipush 128, 3) := by decide +kernel
theorem dX10_apart_48 : decode cX10_apart 48 = .ok (.invokevirtual 187, 3) := by decide +kernel
theorem dX10_apart_51 : decode cX10_apart 51 = .ok (.lshl, 1) := by decide +kernel
theorem dX10_apart_52 : decode cX10_apart 52 = .ok (.lstore 5, 2) := by decide +kernel
theorem dX10_apart_54 : decode cX10_apart 54 = .ok (.iload_n 3, 1) := by decide +kernel
theorem dX10_apart_55 : decode cX10_apart 55 = .ok (.ifCond .ne 7, 3) := by decide +kernel
theorem dX10_apart_58 : decode cX10_apart 58 = .ok (.lconst 0, 1) := by decide +kernel
theorem dX10_apart_59 : decode cX10_apart 59 = .ok (.goto 15, 3) := by decide +kernel
theorem dX10_apart_62 : decode cX10_apart 62 = .ok (.lload 5, 2) := by decide +kernel
theorem dX10_apart_64 : decode cX10_apart 64 = .ok (.aload_n 0, 1) := by decide +kernel
theorem dX10_apart_65 : decode cX10_apart 65 = .ok (.getfield 48, 3) := by decide +kernel
theorem dX10_apart_68 : decode cX10_apart 68 = .ok (.iload 4, 2) := by decide +kernel
theorem dX10_apart_70 : decode cX10_apart 70 = .ok (.laload, 1) := by decide +kernel
theorem dX10_apart_71 : decode cX10_apart 71 = .ok (.invokestatic 326, 3) := by decide +kernel
theorem dX10_apart_74 : decode cX10_apart 74 = .ok (.lstore 7, 2) := by decide +kernel
theorem dX10_apart_76 : decode cX10_apart 76 = .ok (.aload_n 0, 1) := by decide +kernel
theorem dX10_apart_77 : decode cX10_apart 77 = .ok (.getfield 48, 3) := by decide +kernel
theorem dX10_apart_80 : decode cX10_apart 80 = .ok (.iload 4, 2) := by decide +kernel
theorem dX10_apart_82 : decode cX10_apart 82 = .ok (.lload 5, 2) := by decide +kernel
theorem dX10_apart_84 : decode cX10_apart 84 = .ok (.lastore, 1) := by decide +kernel
theorem dX10_apart_85 : decode cX10_apart 85 = .ok (.lload 7, 2) := by decide +kernel
theorem dX10_apart_87 : decode cX10_apart 87 = .ok (.lload_n 1, 1) := by decide +kernel
theorem dX10_apart_88 : decode cX10_apart 88 = .ok (.lcmp, 1) := by decide +kernel
theorem dX10_apart_89 : decode cX10_apart 89 = .ok (.ifCond .le 8, 3) := by decide +kernel
theorem dX10_apart_92 : decode cX10_apart 92 = .ok (.lload 7, 2) := by decide +kernel
theorem dX10_apart_94 : decode cX10_apart 94 = .ok (.goto 4, 3) := by decide +kernel
theorem dX10_apart_97 : decode cX10_apart 97 = .ok (.lload_n 1, 1) := by decide +kernel
theorem dX10_apart_98 : decode cX10_apart 98 = .ok (.lstore_n 1, 1) := by decide +kernel
theorem dX10_apart_99 : decode cX10_apart 99 = .ok (.iinc 4 1, 3) := by decide +kernel
theorem dX10_apart_102 : decode cX10_apart 102 = .ok (.goto (-72), 3) := by decide +kernel
theorem dX10_apart_105 : decode cX10_apart 105 = .ok (.aload_n 0, 1) := by decide +kernel
theorem dX10_apart_106 : decode cX10_apart 106 = .ok (.invokevirtual 289, 3) := by decide +kernel
theorem dX10_apart_109 : decode cX10_apart 109 = .ok (.iinc 3 1, 3) := by decide +kernel
theorem dX10_apart_112 : decode cX10_apart 112 = .ok (.goto (-103), 3) := by decide +kernel
theorem dX10_apart_115 : decode cX10_apart 115 = .ok (.lload_n 1, 1) := by decide +kernel
theorem dX10_apart_116 : decode cX10_apart 116 = .ok (.lreturn, 1) := by decide +kernel
