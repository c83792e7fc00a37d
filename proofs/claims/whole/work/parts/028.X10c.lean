set_option maxRecDepth 20000 in
theorem ggX10_returned_X10_asWas : GoodIn wsX10_returned wsX10_asWas := goodIn_r _ [6, 7, 8, 9, 5, 10, 11, 12, 13, 14, 15, 16, 17, 18, 19, 20, 21, 22, 23, 24, 25, 26, 27, 28, 29, 30, 31, 32, 152, 153, 154, 155, 156, 157, 158, 159, 160, 161, 162, 163, 164, 165, 166, 167, 168, 169, 170, 171, 172, 173, 174, 175, 176, 177, 178, 179, 180, 181, 182, 183, 184, 185, 186, 187, 188] (by decide +kernel) (by decide +kernel)
set_option maxRecDepth 20000 in
theorem gX10_returned_X10_asWas : GoodIn wsX10_returned (wsV RX10 311 RX10 yX10_asWas wsX10_asWas) := goodIn_app (goodIn_of _ (by decide +kernel)) ggX10_returned_X10_asWas
set_option maxRecDepth 20000 in
theorem ggX10_returned_X10_beatsAll : GoodIn wsX10_returned wsX10_beatsAll := goodIn_r _ [36, 37, 38, 39, 5, 40, 17, 18, 19, 20, 16, 11, 41, 42, 43, 44, 45, 46, 47, 48, 49, 50, 51, 52, 53, 54, 55, 56, 57, 58, 59, 60, 61, 62, 63, 64, 65, 66, 67, 68, 69, 70, 71, 72, 73, 74, 75, 76, 77, 78, 21, 22, 23, 24, 79, 80, 81, 82, 83, 84, 85, 86, 87, 88, 89, 90, 91, 92, 93, 94, 95, 96, 97, 98, 99, 100, 101, 102, 103, 104, 105, 106, 107, 108, 109, 110, 111, 112, 113, 114, 115, 116, 117, 118, 119, 120, 121, 122, 123, 124, 125, 126, 127, 128, 129, 130, 131, 132, 133, 152, 153, 154, 155, 156, 157, 158, 159, 160, 161, 162, 163, 164, 165, 166, 167, 168, 169, 170, 171, 172, 173, 174, 175, 176, 177, 178, 179, 180, 181, 182, 183, 184, 185, 186, 187, 188] (by decide +kernel) (by decide +kernel)
set_option maxRecDepth 20000 in
theorem gX10_returned_X10_beatsAll : GoodIn wsX10_returned (wsV RX10 280 RX10 yX10_beatsAll wsX10_beatsAll) := goodIn_app (goodIn_of _ (by decide +kernel)) ggX10_returned_X10_beatsAll
set_option maxRecDepth 20000 in
theorem ggX10_returned_X10_goesBack : GoodIn wsX10_returned wsX10_goesBack := goodIn_r _ [137, 130, 131, 132, 5, 133, 17, 18, 19, 20, 16, 11, 21, 22, 23, 24, 29, 30, 31, 32, 152, 153, 154, 155, 156, 157, 158, 159, 160, 161, 162, 163, 164, 165, 166, 167, 168, 169, 170, 171, 172, 173, 174, 175, 176, 177, 178, 179, 180, 181, 182, 183, 184, 185, 186, 187, 188] (by decide +kernel) (by decide +kernel)
set_option maxRecDepth 20000 in
theorem gX10_returned_X10_goesBack : GoodIn wsX10_returned (wsV RX10 286 RX10 yX10_goesBack wsX10_goesBack) := goodIn_app (goodIn_of _ (by decide +kernel)) ggX10_returned_X10_goesBack
set_option maxRecDepth 20000 in
theorem ggX10_returned_X10_of : GoodIn wsX10_returned wsX10_of := goodIn_r _ [20, 16, 11, 152, 153, 154, 155, 156, 157, 158, 159, 160, 161, 162, 163, 164, 165, 166, 167, 168, 169, 170, 171, 172, 173, 174, 175, 176, 177, 178, 179, 180, 181, 182, 183, 184, 185, 186, 187, 188] (by decide +kernel) (by decide +kernel)
set_option maxRecDepth 20000 in
theorem gX10_returned_X10_of : GoodIn wsX10_returned (wsV RX10 187 RX10 yX10_of wsX10_of) := goodIn_app (goodIn_of _ (by decide +kernel)) ggX10_returned_X10_of
set_option maxRecDepth 20000 in
theorem ggX10_returned_X10_powerOf : GoodIn wsX10_returned wsX10_powerOf := goodIn_r _ [49, 50, 152, 153, 154, 155, 156, 157, 158, 159, 160, 161, 162, 163, 164, 165, 166, 167, 168, 169, 170, 171, 172, 173, 174, 175, 176, 177, 178, 179, 180, 181, 182, 183, 184, 185, 186, 187, 188] (by decide +kernel) (by decide +kernel)
set_option maxRecDepth 20000 in
theorem gX10_returned_X10_powerOf : GoodIn wsX10_returned (wsV RX10 213 RX10 yX10_powerOf wsX10_powerOf) := goodIn_app (goodIn_of _ (by decide +kernel)) ggX10_returned_X10_powerOf
set_option maxRecDepth 20000 in
theorem ggX10_returned_X10_apartBy : GoodIn wsX10_returned wsX10_apartBy := goodIn_r _ [140] (by decide +kernel) (by decide +kernel)
set_option maxRecDepth 20000 in
theorem gX10_returned_X10_apartBy : GoodIn wsX10_returned (va_wsS RX10 326 yX10_apartBy wsX10_apartBy) := goodIn_app (goodIn_of _ (by decide +kernel)) ggX10_returned_X10_apartBy
set_option maxRecDepth 20000 in
theorem ggX10_returned_X10_asItIs : GoodIn wsX10_returned wsX10_asItIs := goodIn_r _ [144, 11, 145, 146, 147, 5, 148, 66, 45, 55, 100, 84, 83, 149, 150, 151, 152, 153, 154, 155, 156, 157, 158, 159, 160, 161, 162, 163, 164, 165, 166, 167, 168, 169, 170, 171, 172, 173, 174, 175, 176, 177, 178, 179, 180, 181, 182, 183, 184, 185, 186, 187, 188] (by decide +kernel) (by decide +kernel)
set_option maxRecDepth 20000 in
theorem gX10_returned_X10_asItIs : GoodIn wsX10_returned (wsV RX10 289 RX10 yX10_asItIs wsX10_asItIs) := goodIn_app (goodIn_of _ (by decide +kernel)) ggX10_returned_X10_asItIs
theorem dX10_returned_0 : decode cX10_returned 0 = .ok (.aload_n 0, 1) := by decide +kernel
theorem dX10_returned_1 : decode cX10_returned 1 = .ok (.iconst 0, 1) := by decide +kernel
theorem dX10_returned_2 : decode cX10_returned 2 = .ok (.putfield 70, 3) := by decide +kernel
theorem dX10_returned_5 : decode cX10_returned 5 = .ok (.aload_n 0, 1) := by decide +kernel
theorem dX10_returned_6 : decode cX10_returned 6 = .ok (.invokevirtual 311, 3) := by decide +kernel
theorem dX10_returned_9 : decode cX10_returned 9 = .ok (.aload_n 0, 1) := by decide +kernel
theorem dX10_returned_10 : decode cX10_returned 10 = .ok (.invokevirtual 280, 3) := by decide +kernel
theorem dX10_returned_13 : decode cX10_returned 13 = .ok (.aload_n 0, 1) := by decide +kernel
theorem dX10_returned_14 : decode cX10_returned 14 = .ok (.invokevirtual 286, 3) := by decide +kernel
theorem dX10_returned_17 : decode cX10_returned 17 = .ok (.aload_n 0, 1) := by decide +kernel
theorem dX10_returned_18 : decode cX10_returned 18 = .ok (.invokevirtual 280, 3) := by decide +kernel
theorem dX10_returned_21 : decode cX10_returned 21 = .ok (.aload_n 0, 1) := by decide +kernel
theorem dX10_returned_22 : decode cX10_returned 22 = .ok (.sipush 128, 3) := by decide +kernel
theorem dX10_returned_25 : decode cX10_returned 25 = .ok (.invokevirtual 187, 3) := by decide +kernel
theorem dX10_returned_28 : decode cX10_returned 28 = .ok (.aload_n 0, 1) := by decide +kernel
theorem dX10_returned_29 : decode cX10_returned 29 = .ok (.invokevirtual 213, 3) := by decide +kernel
theorem dX10_returned_32 : decode cX10_returned 32 = .ok (.iadd, 1) := by decide +kernel
theorem dX10_returned_33 : decode cX10_returned 33 = .ok (.istore_n 1, 1) := by decide +kernel
theorem dX10_returned_34 : decode cX10_returned 34 = .ok (.lconst 0, 1) := by decide +kernel
theorem dX10_returned_35 : decode cX10_returned 35 = .ok (.lstore_n 2, 1) := by decide +kernel
theorem dX10_returned_36 : decode cX10_returned 36 = .ok (.iconst 0, 1) := by decide +kernel
theorem dX10_returned_37 : decode cX10_returned 37 = .ok (.istore 4, 2) := by decide +kernel
theorem dX10_returned_39 : decode cX10_returned 39 = .ok (.iload 4, 2) := by decide +kernel
theorem dX10_returned_41 : decode cX10_returned 41 = .ok (.bipush 64, 2) := by decide +kernel
theorem dX10_returned_43 : decode cX10_returned 43 = .ok (.if_icmp .ge 52, 3) := by decide +kernel
theorem dX10_returned_46 : decode cX10_returned 46 = .ok (.aload_n 0, 1) := by decide +kernel
theorem dX10_returned_47 : decode cX10_returned 47 = .ok (.iload 4, 2) := by decide +kernel
theorem dX10_returned_49 : decode cX10_returned 49 = .ok (.invokevirtual 187, 3) := by decide +kernel
theorem dX10_returned_52 : decode cX10_returned 52 = .ok (.i2l, 1) := by decide +kernel
theorem dX10_returned_53 : decode cX10_returned 53 = .ok (.iload_n 1, 1) := by decide +kernel
theorem dX10_returned_54 : decode cX10_returned 54 = .ok (.lshl, 1) := by decide +kernel
theorem dX10_returned_55 : decode cX10_returned 55 = .ok (.aload_n 0, 1) := by decide +kernel
theorem dX10_returned_56 : decode cX10_returned 56 = .ok (.bipush 64, 2) := by decide +kernel
theorem dX10_returned_58 : decode cX10_returned 58 = .ok (.iload 4, 2) := by decide +kernel
theorem dX10_returned_60 : decode cX10_returned 60 = .ok (.iadd, 1) := by decide +kernel
theorem dX10_returned_61 : decode cX10_returned 61 = .ok (.invokevirtual 187, 3) := by decide +kernel
theorem dX10_returned_64 : decode cX10_returned 64 = .ok (.i2l, 1) := by decide +kernel
theorem dX10_returned_65 : decode cX10_returned 65 = .ok (.aload_n 0, 1) := by decide +kernel
theorem dX10_returned_66 : decode cX10_returned 66 = .ok (.invokevirtual 213, 3) := by decide +kernel
theorem dX10_returned_69 : decode cX10_returned 69 = .ok (.lshl, 1) := by decide +kernel
theorem dX10_returned_70 : decode cX10_returned 70 = .ok (.invokestatic 326, 3) := by decide +kernel
theorem dX10_returned_73 : decode cX10_returned 73 = .ok (.lstore 5, 2) := by decide +kernel
theorem dX10_returned_75 : decode cX10_returned 75 = .ok (.lload 5, 2) := by decide +kernel
theorem dX10_returned_77 : decode cX10_returned 77 = .ok (.lload_n 2, 1) := by decide +kernel
theorem dX10_returned_78 : decode cX10_returned 78 = .ok (.lcmp, 1) := by decide +kernel
theorem dX10_returned_79 : decode cX10_returned 79 = .ok (.ifCond .le 8, 3) := by decide +kernel
theorem dX10_returned_82 : decode cX10_returned 82 = .ok (.lload 5, 2) := by decide +kernel
theorem dX10_returned_84 : decode cX10_returned 84 = .ok (.goto 4, 3) := by decide +kernel
theorem dX10_returned_87 : decode cX10_returned 87 = .ok (.lload_n 2, 1) := by decide +kernel
theorem dX10_returned_88 : decode cX10_returned 88 = .ok (.lstore_n 2, 1) := by decide +kernel
theorem dX10_returned_89 : decode cX10_returned 89 = .ok (.iinc 4 1, 3) := by decide +kernel
theorem dX10_returned_92 : decode cX10_returned 92 = .ok (.goto (-53), 3) := by decide +kernel
theorem dX10_returned_95 : decode cX10_returned 95 = .ok (.aload_n 0, 1) := by decide +kernel
theorem dX10_returned_96 : decode cX10_returned 96 = .ok (.invokevirtual 289, 3) := by decide +kernel
theorem dX10_returned_99 : decode cX10_returned 99 = .ok (.lload_n 2, 1) := by decide +kernel
theorem dX10_returned_100 : decode cX10_returned 100 = .ok (.lreturn, 1) := by decide +kernel
set_option maxRecDepth 20000 in
theorem ggX10_squares_X10_of : GoodIn wsX10_squares wsX10_of := goodIn_r _ [5, 6, 7, 8, 9, 10, 11, 12, 13, 14, 15, 16, 17, 18, 19, 20, 21, 22, 23, 24, 25, 26, 27, 28, 29, 30, 31, 32, 33, 34, 35, 36, 37, 38, 39, 40, 41, 42, 43, 44] (by decide +kernel) (by decide +kernel)
set_option maxRecDepth 20000 in
theorem gX10_squares_X10_of : GoodIn wsX10_squares (wsV RX10 187 RX10 yX10_of wsX10_of) := goodIn_app (goodIn_of _ (by decide +kernel)) ggX10_squares_X10_of
theorem dX10_squares_0 : decode cX10_squares 0 = .ok (.aload_n 0, 1) := by decide +kernel
theorem dX10_squares_1 : decode cX10_squares 1 = .ok (.iload_n 1, 1) := by decide +kernel
theorem dX10_squares_2 : decode cX10_squares 2 = .ok (.iload_n 2, 1) := by decide +kernel
theorem dX10_squares_3 : decode cX10_squares 3 = .ok (.iadd, 1) := by decide +kernel
theorem dX10_squares_4 : decode cX10_squares 4 = .ok (.invokevirtual 187, 3) := by decide +kernel
theorem dX10_squares_7 : decode cX10_squares 7 = .ok (.i2l, 1) := by decide +kernel
theorem dX10_squares_8 : decode cX10_squares 8 = .ok (.aload_n 0, 1) := by decide +kernel
theorem dX10_squares_9 : decode cX10_squares 9 = .ok (.iload_n 1, 1) := by decide +kernel
theorem dX10_squares_10 : decode cX10_squares 10 = .ok (.iload_n 2, 1) := by decide +kernel
theorem dX10_squares_11 : decode cX10_squares 11 = .ok (.iadd, 1) := by decide +kernel
theorem dX10_squares_12 : decode cX10_squares 12 = .ok (.invokevirtual 187, 3) := by decide +kernel
theorem dX10_squares_15 : decode cX10_squares 15 = .ok (.i2l, 1) := by decide +kernel
theorem dX10_squares_16 : decode cX10_squares 16 = .ok (.lmul, 1) := by decide +kernel
theorem dX10_squares_17 : decode cX10_squares 17 = .ok (.aload_n 0, 1) := by decide +kernel
theorem dX10_squares_18 : decode cX10_squares 18 = .ok (.iload_n 1, 1) := by decide +kernel
theorem dX10_squares_19 : decode cX10_squares 19 = .ok (.bipush 32, 2) := by decide +kernel
theorem dX10_squares_21 : decode cX10_squares 21 = .ok (.iadd, 1) := by decide +kernel
theorem dX10_squares_22 : decode cX10_squares 22 = .ok (.iload_n 2, 1) := by decide +kernel
theorem dX10_squares_23 : decode cX10_squares 23 = .ok (.iadd, 1) := by decide +kernel
theorem dX10_squares_24 : decode cX10_squares 24 = .ok (.invokevirtual 187, 3) := by decide +kernel
theorem dX10_squares_27 : decode cX10_squares 27 = .ok (.i2l, 1) := by decide +kernel
theorem dX10_squares_28 : decode cX10_squares 28 = .ok (.aload_n 0, 1) := by decide +kernel
theorem dX10_squares_29 : decode cX10_squares 29 = .ok (.iload_n 1, 1) := by decide +kernel
theorem dX10_squares_30 : decode cX10_squares 30 = .ok (.bipush 32, 2) := by decide +kernel
theorem dX10_squares_32 : decode cX10_squares 32 = .ok (.iadd, 1) := by decide +kernel
theorem dX10_squares_33 : decode cX10_squares 33 = .ok (.iload_n 2, 1) := by decide +kernel
theorem dX10_squares_34 : decode cX10_squares 34 = .ok (.iadd, 1) := by decide +kernel
theorem dX10_squares_35 : decode cX10_squares 35 = .ok (.invokevirtual 187, 3) := by decide +kernel
theorem dX10_squares_38 : decode cX10_squares 38 = .ok (.i2l, 1) := by decide +kernel
theorem dX10_squares_39 : decode cX10_squares 39 = .ok (.lmul, 1) := by decide +kernel
theorem dX10_squares_40 : decode cX10_squares 40 = .ok (.ladd, 1) := by decide +kernel
theorem dX10_squares_41 : decode cX10_squares 41 = .ok (.lreturn, 1) := by decide +kernel
set_option maxRecDepth 20000 in
theorem ggX10_energy_X10_isIn : GoodIn wsX10_energy wsX10_isIn := goodIn_r _ [6] (by decide +kernel) (by decide +kernel)
set_option maxRecDepth 20000 in
theorem gX10_energy_X10_isIn : GoodIn wsX10_energy (va_wsS RX10 138 yX10_isIn wsX10_isIn) := goodIn_app (goodIn_of _ (by decide +kernel)) ggX10_energy_X10_isIn
set_option maxRecDepth 20000 in
theorem ggX10_energy_X10_size : GoodIn wsX10_energy wsX10_size := goodIn_r _ [10, 11, 22, 23, 24, 25, 26, 27, 28, 29, 30, 31, 32, 33, 34, 35, 36, 37, 38, 39, 40, 41, 42, 43, 44, 45, 46, 47, 48, 49, 50, 51, 52, 53, 54, 55, 56, 57, 58] (by decide +kernel) (by decide +kernel)
set_option maxRecDepth 20000 in
theorem gX10_energy_X10_size : GoodIn wsX10_energy (wsV RX10 196 RX10 yX10_size wsX10_size) := goodIn_app (goodIn_of _ (by decide +kernel)) ggX10_energy_X10_size
set_option maxRecDepth 20000 in
theorem ggX10_energy_X10_squares : GoodIn wsX10_energy wsX10_squares := goodIn_r _ [15, 16, 17, 18, 5, 19, 20, 21, 22, 23, 24, 25, 26, 27, 28, 29, 30, 31, 32, 33, 34, 35, 36, 37, 38, 39, 40, 41, 42, 43, 44, 45, 46, 47, 48, 49, 50, 51, 52, 53, 54, 55, 56, 57, 58] (by decide +kernel) (by decide +kernel)
set_option maxRecDepth 20000 in
theorem gX10_energy_X10_squares : GoodIn wsX10_energy (wsV RX10 344 RX10 yX10_squares wsX10_squares) := goodIn_app (goodIn_of _ (by decide +kernel)) ggX10_energy_X10_squares
theorem dX10_energy_0 : decode cX10_energy 0 = .ok (.aload_n 0, 1) := by decide +kernel
theorem dX10_energy_1 : decode cX10_energy 1 = .ok (.iconst 0, 1) := by decide +kernel
theorem dX10_energy_2 : decode cX10_energy 2 = .ok (.putfield 70, 3) := by decide +kernel
theorem dX10_energy_5 : decode cX10_energy 5 = .ok (.iload_n 1, 1) := by decide +kernel
theorem dX10_energy_6 : decode cX10_energy 6 = .ok (.iconst 0, 1) := by decide +kernel
theorem dX10_energy_7 : decode cX10_energy 7 = .ok (.iconst 1, 1) := by decide +kernel
theorem dX10_energy_8 : decode cX10_energy 8 = .ok (.invokestatic 138, 3) := by decide +kernel
theorem dX10_energy_11 : decode cX10_energy 11 = .ok (.ifCond .ne 7, 3) := by decide +kernel
theorem dX10_energy_14 : decode cX10_energy 14 = .ok (.ldc2_w 330, 3) := by decide +kernel
theorem dX10_energy_17 : decode cX10_energy 17 = .ok (.lreturn, 1) := by decide +kernel
theorem dX10_energy_18 : decode cX10_energy 18 = .ok (.lconst 0, 1) := by decide +kernel
theorem dX10_energy_19 : decode cX10_energy 19 = .ok (.lstore_n 2, 1) := by decide +kernel
theorem dX10_energy_20 : decode cX10_energy 20 = .ok (.iconst 0, 1) := by decide +kernel
theorem dX10_energy_21 : decode cX10_energy 21 = .ok (.istore 4, 2) := by decide +kernel
theorem dX10_energy_23 : decode cX10_energy 23 = .ok (.iload 4, 2) := by decide +kernel
theorem dX10_energy_25 : decode cX10_energy 25 = .ok (.aload_n 0, 1) := by decide +kernel
theorem dX10_energy_26 : decode cX10_energy 26 = .ok (.invokevirtual 196, 3) := by decide +kernel
theorem dX10_energy_29 : decode cX10_energy 29 = .ok (.if_icmp .ge 22, 3) := by decide +kernel
theorem dX10_energy_32 : decode cX10_energy 32 = .ok (.lload_n 2, 1) := by decide +kernel
theorem dX10_energy_33 : decode cX10_energy 33 = .ok (.aload_n 0, 1) := by decide +kernel
theorem dX10_energy_34 : decode cX10_energy 34 = .ok (.bipush 64, 2) := by decide +kernel
theorem dX10_energy_36 : decode cX10_energy 36 = .ok (.iload_n 1, 1) := by decide +kernel
theorem dX10_energy_37 : decode cX10_energy 37 = .ok (.imul, 1) := by decide +kernel
theorem dX10_energy_38 : decode cX10_energy 38 = .ok (.iload 4, 2) := by decide +kernel
theorem dX10_energy_40 : decode cX10_energy 40 = .ok (.invokevirtual 344, 3) := by decide +kernel
theorem dX10_energy_43 : decode cX10_energy 43 = .ok (.ladd, 1) := by decide +kernel
theorem dX10_energy_44 : decode cX10_energy 44 = .ok (.lstore_n 2, 1) := by decide +kernel
theorem dX10_energy_45 : decode cX10_energy 45 = .ok (.iinc 4 1, 3) := by decide +kernel
theorem dX10_energy_48 : decode cX10_energy 48 = .ok (.goto (-25), 3) := by decide +kernel
theorem dX10_energy_51 : decode cX10_energy 51 = .ok (.lload_n 2, 1) := by decide +kernel
theorem dX10_energy_52 : decode cX10_energy 52 = .ok (.lreturn, 1) := by decide +kernel
set_option maxRecDepth 20000 in
theorem ggX10_peak_X10_isPlace : GoodIn wsX10_peak wsX10_isPlace := goodIn_r _ [6, 7, 8, 9, 5, 10, 11, 40, 41, 42, 43, 44, 45, 46, 47, 48, 49, 50, 51, 52, 53, 54, 55, 56, 57, 58, 59, 60, 61, 62, 63, 64, 65, 66, 67, 68, 69, 70, 71, 72, 73, 74, 75, 76] (by decide +kernel) (by decide +kernel)
set_option maxRecDepth 20000 in
theorem gX10_peak_X10_isPlace : GoodIn wsX10_peak (wsV RX10 203 RX10 yX10_isPlace wsX10_isPlace) := goodIn_app (goodIn_of _ (by decide +kernel)) ggX10_peak_X10_isPlace
set_option maxRecDepth 20000 in
theorem ggX10_peak_X10_isForward : GoodIn wsX10_peak wsX10_isForward := goodIn_r _ [15, 16, 17, 18, 5, 19, 20, 21, 22, 23, 24, 25, 26, 27, 28, 29, 30, 31, 32, 33, 34, 35, 40, 41, 42, 43, 44, 45, 46, 47, 48, 49, 50, 51, 52, 53, 54, 55, 56, 57, 58, 59, 60, 61, 62, 63, 64, 65, 66, 67, 68, 69, 70, 71, 72, 73, 74, 75, 76] (by decide +kernel) (by decide +kernel)
set_option maxRecDepth 20000 in
theorem gX10_peak_X10_isForward : GoodIn wsX10_peak (wsV RX10 283 RX10 yX10_isForward wsX10_isForward) := goodIn_app (goodIn_of _ (by decide +kernel)) ggX10_peak_X10_isForward
set_option maxRecDepth 20000 in
theorem ggX10_peak_X10_size : GoodIn wsX10_peak wsX10_size := goodIn_r _ [10, 11, 40, 41, 42, 43, 44, 45, 46, 47, 48, 49, 50, 51, 52, 53, 54, 55, 56, 57, 58, 59, 60, 61, 62, 63, 64, 65, 66, 67, 68, 69, 70, 71, 72, 73, 74, 75, 76] (by decide +kernel) (by decide +kernel)
set_option maxRecDepth 20000 in
theorem gX10_peak_X10_size : GoodIn wsX10_peak (wsV RX10 196 RX10 yX10_size wsX10_size) := goodIn_app (goodIn_of _ (by decide +kernel)) ggX10_peak_X10_size
set_option maxRecDepth 20000 in
theorem ggX10_peak_X10_squares : GoodIn wsX10_peak wsX10_squares := goodIn_r _ [39, 20, 21, 22, 5, 23, 24, 25, 40, 41, 42, 43, 44, 45, 46, 47, 48, 49, 50, 51, 52, 53, 54, 55, 56, 57, 58, 59, 60, 61, 62, 63, 64, 65, 66, 67, 68, 69, 70, 71, 72, 73, 74, 75, 76] (by decide +kernel) (by decide +kernel)
set_option maxRecDepth 20000 in
theorem gX10_peak_X10_squares : GoodIn wsX10_peak (wsV RX10 344 RX10 yX10_squares wsX10_squares) := goodIn_app (goodIn_of _ (by decide +kernel)) ggX10_peak_X10_squares
theorem dX10_peak_0 : decode cX10_peak 0 = .ok (.aload_n 0, 1) := by decide +kernel
theorem dX10_peak_1 : decode cX10_peak 1 = .ok (.iconst 0, 1) := by decide +kernel
theorem dX10_peak_2 : decode cX10_peak 2 = .ok (.putfield 70, 3) := by decide +kernel
theorem dX10_peak_5 : decode cX10_peak 5 = .ok (.aload_n 0, 1) := by decide +kernel
theorem dX10_peak_6 : decode cX10_peak 6 = .ok (.iload_n 1, 1) := by decide +kernel
theorem dX10_peak_7 : decode cX10_peak 7 = .ok (.invokevirtual 203, 3) := by decide +kernel
theorem dX10_peak_10 : decode cX10_peak 10 = .ok (.ifCond .ne 5, 3) := by decide +kernel
theorem dX10_peak_13 : decode cX10_peak 13 = .ok (.iconst (-1), 1) := by decide +kernel
theorem dX10_peak_14 : decode cX10_peak 14 = .ok (.ireturn, 1) := by decide +kernel
theorem dX10_peak_15 : decode cX10_peak 15 = .ok (.aload_n 0, 1) := by decide +kernel
theorem dX10_peak_16 : decode cX10_peak 16 = .ok (.invokevirtual 283, 3) := by decide +kernel
theorem dX10_peak_19 : decode cX10_peak 19 = .ok (.ifCond .ne 6, 3) := by decide +kernel
theorem dX10_peak_22 : decode cX10_peak 22 = .ok (.bipush (-2), 2) := by decide +kernel
theorem dX10_peak_24 : decode cX10_peak 24 = .ok (.ireturn, 1) := by decide +kernel
theorem dX10_peak_25 : decode cX10_peak 25 = .ok (.iconst 0, 1) := by decide +kernel
theorem dX10_peak_26 : decode cX10_peak 26 = .ok (.istore_n 2, 1) := by decide +kernel
theorem dX10_peak_27 : decode cX10_peak 27 = .ok (.iconst 0, 1) := by decide +kernel
theorem dX10_peak_28 : decode cX10_peak 28 = .ok (.istore_n 3, 1) := by decide +kernel
theorem dX10_peak_29 : decode cX10_peak 29 = .ok (.iload_n 3, 1) := by decide +kernel
theorem dX10_peak_30 : decode cX10_peak 30 = .ok (.aload_n 0, 1) := by decide +kernel
theorem dX10_peak_31 : decode cX10_peak 31 = .ok (.invokevirtual 196, 3) := by decide +kernel
theorem dX10_peak_34 : decode cX10_peak 34 = .ok (.if_icmp .ge 88, 3) := by decide +kernel
theorem dX10_peak_37 : decode cX10_peak 37 = .ok (.iconst 0, 1) := by decide +kernel
theorem dX10_peak_38 : decode cX10_peak 38 = .ok (.istore 4, 2) := by decide +kernel
theorem dX10_peak_40 : decode cX10_peak 40 = .ok (.iconst 0, 1) := by decide +kernel
theorem dX10_peak_41 : decode cX10_peak 41 = .ok (.istore 5, 2) := by decide +kernel
theorem dX10_peak_43 : decode cX10_peak 43 = .ok (.iload 5, 2) := by decide +kernel
theorem dX10_peak_45 : decode cX10_peak 45 = .ok (.aload_n 0, 1) := by decide +kernel
theorem dX10_peak_46 : decode cX10_peak 46 = .ok (.invokevirtual 196, 3) := by decide +kernel
theorem dX10_peak_49 : decode cX10_peak 49 = .ok (.if_icmp .ge 55, 3) := by decide +kernel
theorem dX10_peak_52 : decode cX10_peak 52 = .ok (.aload_n 0, 1) := by decide +kernel
theorem dX10_peak_53 : decode cX10_peak 53 = .ok (.iconst 0, 1) := by decide +kernel
theorem dX10_peak_54 : decode cX10_peak 54 = .ok (.iload 5, 2) := by decide +kernel
theorem dX10_peak_56 : decode cX10_peak 56 = .ok (.invokevirtual 344, 3) := by decide +kernel
theorem dX10_peak_59 : decode cX10_peak 59 = .ok (.aload_n 0, 1) := by decide +kernel
theorem dX10_peak_60 : decode cX10_peak 60 = .ok (.iconst 0, 1) := by decide +kernel
theorem dX10_peak_61 : decode cX10_peak 61 = .ok (.iload_n 3, 1) := by decide +kernel
theorem dX10_peak_62 : decode cX10_peak 62 = .ok (.invokevirtual 344, 3) := by decide +kernel
theorem dX10_peak_65 : decode cX10_peak 65 = .ok (.lsub, 1) := by decide +kernel
theorem dX10_peak_66 : decode cX10_peak 66 = .ok (.lstore 6, 2) := by decide +kernel
theorem dX10_peak_68 : decode cX10_peak 68 = .ok (.iload 4, 2) := by decide +kernel
theorem dX10_peak_70 : decode cX10_peak 70 = .ok (.lload 6, 2) := by decide +kernel
theorem dX10_peak_72 : decode cX10_peak 72 = .ok (.lconst 0, 1) := by decide +kernel
theorem dX10_peak_73 : decode cX10_peak 73 = .ok (.lcmp, 1) := by decide +kernel
theorem dX10_peak_74 : decode cX10_peak 74 = .ok (.ifCond .gt 16, 3) := by decide +kernel
theorem dX10_peak_77 : decode cX10_peak 77 = .ok (.lload 6, 2) := by decide +kernel
theorem dX10_peak_79 : decode cX10_peak 79 = .ok (.lconst 0, 1) := by decide +kernel
theorem dX10_peak_80 : decode cX10_peak 80 = .ok (.lcmp, 1) := by decide +kernel
theorem dX10_peak_81 : decode cX10_peak 81 = .ok (.ifCond .ne 13, 3) := by decide +kernel
theorem dX10_peak_84 : decode cX10_peak 84 = .ok (.iload 5, 2) := by decide +kernel
theorem dX10_peak_86 : decode cX10_peak 86 = .ok (.iload_n 3, 1) := by decide +kernel
theorem dX10_peak_87 : decode cX10_peak 87 = .ok (.if_icmp .ge 7, 3) := by decide +kernel
theorem dX10_peak_90 : decode cX10_peak 90 = .ok (.iconst 1, 1) := by decide +kernel
theorem dX10_peak_91 : decode cX10_peak 91 = .ok (.goto 4, 3) := by decide +kernel
theorem dX10_peak_94 : decode cX10_peak 94 = .ok (.iconst 0, 1) := by decide +kernel
theorem dX10_peak_95 : decode cX10_peak 95 = .ok (.iadd, 1) := by decide +kernel
theorem dX10_peak_96 : decode cX10_peak 96 = .ok (.istore 4, 2) := by decide +kernel
theorem dX10_peak_98 : decode cX10_peak 98 = .ok (.iinc 5 1, 3) := by decide +kernel
theorem dX10_peak_101 : decode cX10_peak 101 = .ok (.goto (-58), 3) := by decide +kernel
theorem dX10_peak_104 : decode cX10_peak 104 = .ok (.iload 4, 2) := by decide +kernel
theorem dX10_peak_106 : decode cX10_peak 106 = .ok (.iload_n 1, 1) := by decide +kernel
theorem dX10_peak_107 : decode cX10_peak 107 = .ok (.if_icmp .ne 7, 3) := by decide +kernel
theorem dX10_peak_110 : decode cX10_peak 110 = .ok (.iload_n 3, 1) := by decide +kernel
theorem dX10_peak_111 : decode cX10_peak 111 = .ok (.goto 4, 3) := by decide +kernel
theorem dX10_peak_114 : decode cX10_peak 114 = .ok (.iload_n 2, 1) := by decide +kernel
theorem dX10_peak_115 : decode cX10_peak 115 = .ok (.istore_n 2, 1) := by decide +kernel
theorem dX10_peak_116 : decode cX10_peak 116 = .ok (.iinc 3 1, 3) := by decide +kernel
theorem dX10_peak_119 : decode cX10_peak 119 = .ok (.goto (-90), 3) := by decide +kernel
theorem dX10_peak_122 : decode cX10_peak 122 = .ok (.iload_n 2, 1) := by decide +kernel
theorem dX10_peak_123 : decode cX10_peak 123 = .ok (.ireturn, 1) := by decide +kernel
set_option maxRecDepth 20000 in
theorem ggX10_over_X10_size : GoodIn wsX10_over wsX10_size := goodIn_r _ [6, 7, 18, 19, 20, 21, 22, 23, 24, 25, 26, 27, 28, 29, 30, 31, 32, 33, 34, 35, 36, 37, 38, 39, 40, 41, 42, 43, 44, 45, 46, 47, 48, 49, 50, 51, 52, 53, 54] (by decide +kernel) (by decide +kernel)
set_option maxRecDepth 20000 in
theorem gX10_over_X10_size : GoodIn wsX10_over (wsV RX10 196 RX10 yX10_size wsX10_size) := goodIn_app (goodIn_of _ (by decide +kernel)) ggX10_over_X10_size
set_option maxRecDepth 20000 in
theorem ggX10_over_X10_squares : GoodIn wsX10_over wsX10_squares := goodIn_r _ [11, 12, 13, 14, 5, 15, 16, 17, 18, 19, 20, 21, 22, 23, 24, 25, 26, 27, 28, 29, 30, 31, 32, 33, 34, 35, 36, 37, 38, 39, 40, 41, 42, 43, 44, 45, 46, 47, 48, 49, 50, 51, 52, 53, 54] (by decide +kernel) (by decide +kernel)
set_option maxRecDepth 20000 in
theorem gX10_over_X10_squares : GoodIn wsX10_over (wsV RX10 344 RX10 yX10_squares wsX10_squares) := goodIn_app (goodIn_of _ (by decide +kernel)) ggX10_over_X10_squares
theorem dX10_over_0 : decode cX10_over 0 = .ok (.aload_n 0, 1) := by decide +kernel
theorem dX10_over_1 : decode cX10_over 1 = .ok (.iconst 0, 1) := by decide +kernel
theorem dX10_over_2 : decode cX10_over 2 = .ok (.putfield 70, 3) := by decide +kernel
theorem dX10_over_5 : decode cX10_over 5 = .ok (.iload_n 1, 1) := by decide +kernel
theorem dX10_over_6 : decode cX10_over 6 = .ok (.ifCond .ge 5, 3) := by decide +kernel
theorem dX10_over_9 : decode cX10_over 9 = .ok (.iconst (-1), 1) := by decide +kernel
theorem dX10_over_10 : decode cX10_over 10 = .ok (.ireturn, 1) := by decide +kernel
theorem dX10_over_11 : decode cX10_over 11 = .ok (.iconst 0, 1) := by decide +kernel
theorem dX10_over_12 : decode cX10_over 12 = .ok (.istore_n 2, 1) := by decide +kernel
theorem dX10_over_13 : decode cX10_over 13 = .ok (.iconst 0, 1) := by decide +kernel
theorem dX10_over_14 : decode cX10_over 14 = .ok (.istore_n 3, 1) := by decide +kernel
theorem dX10_over_15 : decode cX10_over 15 = .ok (.iload_n 3, 1) := by decide +kernel
theorem dX10_over_16 : decode cX10_over 16 = .ok (.aload_n 0, 1) := by decide +kernel
theorem dX10_over_17 : decode cX10_over 17 = .ok (.invokevirtual 196, 3) := by decide +kernel
theorem dX10_over_20 : decode cX10_over 20 = .ok (.if_icmp .ge 29, 3) := by decide +kernel
theorem dX10_over_23 : decode cX10_over 23 = .ok (.iload_n 2, 1) := by decide +kernel
theorem dX10_over_24 : decode cX10_over 24 = .ok (.aload_n 0, 1) := by decide +kernel
theorem dX10_over_25 : decode cX10_over 25 = .ok (.iconst 0, 1) := by decide +kernel
theorem dX10_over_26 : decode cX10_over 26 = .ok (.iload_n 3, 1) := by decide +kernel
theorem dX10_over_27 : decode cX10_over 27 = .ok (.invokevirtual 344, 3) := by decide +kernel
theorem dX10_over_30 : decode cX10_over 30 = .ok (.iload_n 1, 1) := by decide +kernel
theorem dX10_over_31 : decode cX10_over 31 = .ok (.i2l, 1) := by decide +kernel
theorem dX10_over_32 : decode cX10_over 32 = .ok (.lcmp, 1) := by decide +kernel
theorem dX10_over_33 : decode cX10_over 33 = .ok (.ifCond .lt 7, 3) := by decide +kernel
theorem dX10_over_36 : decode cX10_over 36 = .ok (.iconst 1, 1) := by decide +kernel
theorem dX10_over_37 : decode cX10_over 37 = .ok (.goto 4, 3) := by decide +kernel
theorem dX10_over_40 : decode cX10_over 40 = .ok (.iconst 0, 1) := by decide +kernel
theorem dX10_over_41 : decode cX10_over 41 = .ok (.iadd, 1) := by decide +kernel
theorem dX10_over_42 : decode cX10_over 42 = .ok (.istore_n 2, 1) := by decide +kernel
theorem dX10_over_43 : decode cX10_over 43 = .ok (.iinc 3 1, 3) := by decide +kernel
theorem dX10_over_46 : decode cX10_over 46 = .ok (.goto (-31), 3) := by decide +kernel
theorem dX10_over_49 : decode cX10_over 49 = .ok (.iload_n 2, 1) := by decide +kernel
theorem dX10_over_50 : decode cX10_over 50 = .ok (.ireturn, 1) := by decide +kernel
set_option maxRecDepth 20000 in
theorem ggX10_otherOf_X10_size : GoodIn wsX10_otherOf wsX10_size := goodIn_r _ [5, 6, 7, 8, 9, 10, 11, 12, 13, 14, 15, 16, 17, 18, 19, 20, 21, 22, 23, 24, 25, 26, 27, 28, 29, 30, 31, 32, 33, 34, 35, 36, 37, 38, 39, 40, 41, 42, 43] (by decide +kernel) (by decide +kernel)
set_option maxRecDepth 20000 in
theorem gX10_otherOf_X10_size : GoodIn wsX10_otherOf (wsV RX10 196 RX10 yX10_size wsX10_size) := goodIn_app (goodIn_of _ (by decide +kernel)) ggX10_otherOf_X10_size
theorem dX10_otherOf_0 : decode cX10_otherOf 0 = .ok (.aload_n 0, 1) := by decide +kernel
theorem dX10_otherOf_1 : decode cX10_otherOf 1 = .ok (.invokevirtual 196, 3) := by decide +kernel
theorem dX10_otherOf_4 : decode cX10_otherOf 4 = .ok (.iload_n 1, 1) := by decide +kernel
theorem dX10_otherOf_5 : decode cX10_otherOf 5 = .ok (.isub, 1) := by decide +kernel
theorem dX10_otherOf_6 : decode cX10_otherOf 6 = .ok (.aload_n 0, 1) := by decide +kernel
theorem dX10_otherOf_7 : decode cX10_otherOf 7 = .ok (.invokevirtual 196, 3) := by decide +kernel
theorem dX10_otherOf_10 : decode cX10_otherOf 10 = .ok (.irem, 1) := by decide +kernel
theorem dX10_otherOf_11 : decode cX10_otherOf 11 = .ok (.ireturn, 1) := by decide +kernel
set_option maxRecDepth 20000 in
theorem ggX10_mirror_X10_isForward : GoodIn wsX10_mirror wsX10_isForward := goodIn_r _ [6, 7, 8, 9, 5, 10, 11, 12, 13, 14, 15, 16, 17, 18, 19, 20, 21, 22, 23, 24, 25, 26, 39, 40, 41, 42, 43, 44, 45, 46, 47, 48, 49, 50, 51, 52, 53, 54, 55, 56, 57, 58, 59, 60, 61, 62, 63, 64, 65, 66, 67, 68, 69, 70, 71, 72, 73, 74, 75] (by decide +kernel) (by decide +kernel)
set_option maxRecDepth 20000 in
theorem gX10_mirror_X10_isForward : GoodIn wsX10_mirror (wsV RX10 283 RX10 yX10_isForward wsX10_isForward) := goodIn_app (goodIn_of _ (by decide +kernel)) ggX10_mirror_X10_isForward
set_option maxRecDepth 20000 in
theorem ggX10_mirror_X10_size : GoodIn wsX10_mirror wsX10_size := goodIn_r _ [30, 31, 39, 40, 41, 42, 43, 44, 45, 46, 47, 48, 49, 50, 51, 52, 53, 54, 55, 56, 57, 58, 59, 60, 61, 62, 63, 64, 65, 66, 67, 68, 69, 70, 71, 72, 73, 74, 75] (by decide +kernel) (by decide +kernel)
set_option maxRecDepth 20000 in
theorem gX10_mirror_X10_size : GoodIn wsX10_mirror (wsV RX10 196 RX10 yX10_size wsX10_size) := goodIn_app (goodIn_of _ (by decide +kernel)) ggX10_mirror_X10_size
set_option maxRecDepth 20000 in
theorem ggX10_mirror_X10_of : GoodIn wsX10_mirror wsX10_of := goodIn_r _ [14, 15, 16, 39, 40, 41, 42, 43, 44, 45, 46, 47, 48, 49, 50, 51, 52, 53, 54, 55, 56, 57, 58, 59, 60, 61, 62, 63, 64, 65, 66, 67, 68, 69, 70, 71, 72, 73, 74, 75] (by decide +kernel) (by decide +kernel)
set_option maxRecDepth 20000 in
theorem gX10_mirror_X10_of : GoodIn wsX10_mirror (wsV RX10 187 RX10 yX10_of wsX10_of) := goodIn_app (goodIn_of _ (by decide +kernel)) ggX10_mirror_X10_of
set_option maxRecDepth 20000 in
theorem ggX10_mirror_X10_otherOf : GoodIn wsX10_mirror wsX10_otherOf := goodIn_r _ [35, 27, 28, 29, 5, 30, 31, 39, 40, 41, 42, 43, 44, 45, 46, 47, 48, 49, 50, 51, 52, 53, 54, 55, 56, 57, 58, 59, 60, 61, 62, 63, 64, 65, 66, 67, 68, 69, 70, 71, 72, 73, 74, 75] (by decide +kernel) (by decide +kernel)
set_option maxRecDepth 20000 in
theorem gX10_mirror_X10_otherOf : GoodIn wsX10_mirror (wsV RX10 347 RX10 yX10_otherOf wsX10_otherOf) := goodIn_app (goodIn_of _ (by decide +kernel)) ggX10_mirror_X10_otherOf
set_option maxRecDepth 20000 in
theorem ggX10_mirror_X10_over0 : GoodIn wsX10_mirror wsX10_over0 := goodIn_r _ [38] (by decide +kernel) (by decide +kernel)
set_option maxRecDepth 20000 in
theorem gX10_mirror_X10_over0 : GoodIn wsX10_mirror (va_wsS RX10 228 yX10_over0 wsX10_over0) := goodIn_app (goodIn_of _ (by decide +kernel)) ggX10_mirror_X10_over0
theorem dX10_mirror_0 : decode cX10_mirror 0 = .ok (.aload_n 0, 1) := by decide +kernel
theorem dX10_mirror_1 : decode cX10_mirror 1 = .ok (.iconst 0, 1) := by decide +kernel
theorem dX10_mirror_2 : decode cX10_mirror 2 = .ok (.putfield 70, 3) := by decide +kernel
theorem dX10_mirror_5 : decode cX10_mirror 5 = .ok (.aload_n 0, 1) := by decide +kernel
theorem dX10_mirror_6 : decode cX10_mirror 6 = .ok (.invokevirtual 283, 3) := by decide +kernel
theorem dX10_mirror_9 : decode cX10_mirror 9 = .ok (.ifCond .ne 6, 3) := by decide +kernel
theorem dX10_mirror_12 : decode cX10_mirror 12 = .ok (.bipush (-2), 2) := by decide +kernel
theorem dX10_mirror_14 : decode cX10_mirror 14 = .ok (.ireturn, 1) := by decide +kernel
theorem dX10_mirror_15 : decode cX10_mirror 15 = .ok (.iconst 0, 1) := by decide +kernel
theorem dX10_mirror_16 : decode cX10_mirror 16 = .ok (.istore_n 1, 1) := by decide +kernel
theorem dX10_mirror_17 : decode cX10_mirror 17 = .ok (.iconst 0, 1) := by decide +kernel
theorem dX10_mirror_18 : decode cX10_mirror 18 = .ok (.istore_n 2, 1) := by decide +kernel
theorem dX10_mirror_19 : decode cX10_mirror 19 = .ok (.iload_n 2, 1) := by decide +kernel
theorem dX10_mirror_20 : decode cX10_mirror 20 = .ok (.aload_n 0, 1) := by decide +kernel
theorem dX10_mirror_21 : decode cX10_mirror 21 = .ok (.invokevirtual 196, 3) := by decide +kernel
theorem dX10_mirror_24 : decode cX10_mirror 24 = .ok (.if_icmp .ge 78, 3) := by decide +kernel
theorem dX10_mirror_27 : decode cX10_mirror 27 = .ok (.aload_n 0, 1) := by decide +kernel
theorem dX10_mirror_28 : decode cX10_mirror 28 = .ok (.iload_n 2, 1) := by decide +kernel
theorem dX10_mirror_29 : decode cX10_mirror 29 = .ok (.invokevirtual 187, 3) := by decide +kernel
theorem dX10_mirror_32 : decode cX10_mirror 32 = .ok (.aload_n 0, 1) := by decide +kernel
theorem dX10_mirror_33 : decode cX10_mirror 33 = .ok (.aload_n 0, 1) := by decide +kernel
theorem dX10_mirror_34 : decode cX10_mirror 34 = .ok (.iload_n 2, 1) := by decide +kernel
theorem dX10_mirror_35 : decode cX10_mirror 35 = .ok (.invokevirtual 347, 3) := by decide +kernel
theorem dX10_mirror_38 : decode cX10_mirror 38 = .ok (.invokevirtual 187, 3) := by decide +kernel
theorem dX10_mirror_41 : decode cX10_mirror 41 = .ok (.isub, 1) := by decide +kernel
theorem dX10_mirror_42 : decode cX10_mirror 42 = .ok (.invokestatic 228, 3) := by decide +kernel
theorem dX10_mirror_45 : decode cX10_mirror 45 = .ok (.istore_n 3, 1) := by decide +kernel
theorem dX10_mirror_46 : decode cX10_mirror 46 = .ok (.aload_n 0, 1) := by decide +kernel
theorem dX10_mirror_47 : decode cX10_mirror 47 = .ok (.bipush 32, 2) := by decide +kernel
theorem dX10_mirror_49 : decode cX10_mirror 49 = .ok (.iload_n 2, 1) := by decide +kernel
theorem dX10_mirror_50 : decode cX10_mirror 50 = .ok (.iadd, 1) := by decide +kernel
theorem dX10_mirror_51 : decode cX10_mirror 51 = .ok (.invokevirtual 187, 3) := by decide +kernel
theorem dX10_mirror_54 : decode cX10_mirror 54 = .ok (.aload_n 0, 1) := by decide +kernel
theorem dX10_mirror_55 : decode cX10_mirror 55 = .ok (.bipush 32, 2) := by decide +kernel
theorem dX10_mirror_57 : decode cX10_mirror 57 = .ok (.aload_n 0, 1) := by decide +kernel
theorem dX10_mirror_58 : decode cX10_mirror 58 = .ok (.iload_n 2, 1) := by decide +kernel
theorem dX10_mirror_59 : decode cX10_mirror 59 = .ok (.invokevirtual 347, 3) := by decide +kernel
theorem dX10_mirror_62 : decode cX10_mirror 62 = .ok (.iadd, 1) := by decide +kernel
theorem dX10_mirror_63 : decode cX10_mirror 63 = .ok (.invokevirtual 187, 3) := by decide +kernel
theorem dX10_mirror_66 : decode cX10_mirror 66 = .ok (.iadd, 1) := by decide +kernel
theorem dX10_mirror_67 : decode cX10_mirror 67 = .ok (.invokestatic 228, 3) := by decide +kernel
theorem dX10_mirror_70 : decode cX10_mirror 70 = .ok (.istore 4, 2) := by decide +kernel
theorem dX10_mirror_72 : decode cX10_mirror 72 = .ok (.iload_n 3, 1) := by decide +kernel
theorem dX10_mirror_73 : decode cX10_mirror 73 = .ok (.iload_n 1, 1) := by decide +kernel
theorem dX10_mirror_74 : decode cX10_mirror 74 = .ok (.if_icmp .le 7, 3) := by decide +kernel
theorem dX10_mirror_77 : decode cX10_mirror 77 = .ok (.iload_n 3, 1) := by decide +kernel
theorem dX10_mirror_78 : decode cX10_mirror 78 = .ok (.goto 4, 3) := by decide +kernel
theorem dX10_mirror_81 : decode cX10_mirror 81 = .ok (.iload_n 1, 1) := by decide +kernel
theorem dX10_mirror_82 : decode cX10_mirror 82 = .ok (.istore_n 1, 1) := by decide +kernel
theorem dX10_mirror_83 : decode cX10_mirror 83 = .ok (.iload 4, 2) := by decide +kernel
theorem dX10_mirror_85 : decode cX10_mirror 85 = .ok (.iload_n 1, 1) := by decide +kernel
theorem dX10_mirror_86 : decode cX10_mirror 86 = .ok (.if_icmp .le 8, 3) := by decide +kernel
theorem dX10_mirror_89 : decode cX10_mirror 89 = .ok (.iload 4, 2) := by decide +kernel
theorem dX10_mirror_91 : decode cX10_mirror 91 = .ok (.goto 4, 3) := by decide +kernel
theorem dX10_mirror_94 : decode cX10_mirror 94 = .ok (.iload_n 1, 1) := by decide +kernel
theorem dX10_mirror_95 : decode cX10_mirror 95 = .ok (.istore_n 1, 1) := by decide +kernel
theorem dX10_mirror_96 : decode cX10_mirror 96 = .ok (.iinc 2 1, 3) := by decide +kernel
theorem dX10_mirror_99 : decode cX10_mirror 99 = .ok (.goto (-80), 3) := by decide +kernel
theorem dX10_mirror_102 : decode cX10_mirror 102 = .ok (.iload_n 1, 1) := by decide +kernel
theorem dX10_mirror_103 : decode cX10_mirror 103 = .ok (.ireturn, 1) := by decide +kernel
set_option maxRecDepth 20000 in
theorem ggX10_pair_X10_isPlace : GoodIn wsX10_pair wsX10_isPlace := goodIn_r _ [7, 8, 9, 10, 6, 11, 12, 44, 45, 46, 47, 48, 49, 50, 51, 52, 53, 54, 55, 56, 57, 58, 59, 60, 61, 62, 63, 64, 65, 66, 67, 68, 69, 70, 71, 72, 73, 74, 75, 76, 77, 78, 79, 80] (by decide +kernel) (by decide +kernel)
set_option maxRecDepth 20000 in
theorem gX10_pair_X10_isPlace : GoodIn wsX10_pair (wsV RX10 203 RX10 yX10_isPlace wsX10_isPlace) := goodIn_app (goodIn_of _ (by decide +kernel)) ggX10_pair_X10_isPlace
set_option maxRecDepth 20000 in
theorem ggX10_pair_X10_isIn : GoodIn wsX10_pair wsX10_isIn := goodIn_r _ [15] (by decide +kernel) (by decide +kernel)
set_option maxRecDepth 20000 in
theorem gX10_pair_X10_isIn : GoodIn wsX10_pair (va_wsS RX10 138 yX10_isIn wsX10_isIn) := goodIn_app (goodIn_of _ (by decide +kernel)) ggX10_pair_X10_isIn
set_option maxRecDepth 20000 in
theorem ggX10_pair_X10_isForward : GoodIn wsX10_pair wsX10_isForward := goodIn_r _ [19, 20, 21, 22, 6, 23, 24, 25, 26, 27, 28, 29, 30, 31, 32, 33, 34, 35, 36, 37, 38, 39, 44, 45, 46, 47, 48, 49, 50, 51, 52, 53, 54, 55, 56, 57, 58, 59, 60, 61, 62, 63, 64, 65, 66, 67, 68, 69, 70, 71, 72, 73, 74, 75, 76, 77, 78, 79, 80] (by decide +kernel) (by decide +kernel)
set_option maxRecDepth 20000 in
theorem gX10_pair_X10_isForward : GoodIn wsX10_pair (wsV RX10 283 RX10 yX10_isForward wsX10_isForward) := goodIn_app (goodIn_of _ (by decide +kernel)) ggX10_pair_X10_isForward
set_option maxRecDepth 20000 in
theorem ggX10_pair_X10_otherOf : GoodIn wsX10_pair wsX10_otherOf := goodIn_r _ [43, 8, 9, 10, 6, 11, 12, 44, 45, 46, 47, 48, 49, 50, 51, 52, 53, 54, 55, 56, 57, 58, 59, 60, 61, 62, 63, 64, 65, 66, 67, 68, 69, 70, 71, 72, 73, 74, 75, 76, 77, 78, 79, 80] (by decide +kernel) (by decide +kernel)
set_option maxRecDepth 20000 in
theorem gX10_pair_X10_otherOf : GoodIn wsX10_pair (wsV RX10 347 RX10 yX10_otherOf wsX10_otherOf) := goodIn_app (goodIn_of _ (by decide +kernel)) ggX10_pair_X10_otherOf
set_option maxRecDepth 20000 in
theorem ggX10_pair_X10_of : GoodIn wsX10_pair wsX10_of := goodIn_r _ [27, 28, 29, 44, 45, 46, 47, 48, 49, 50, 51, 52, 53, 54, 55, 56, 57, 58, 59, 60, 61, 62, 63, 64, 65, 66, 67, 68, 69, 70, 71, 72, 73, 74, 75, 76, 77, 78, 79, 80] (by decide +kernel) (by decide +kernel)
set_option maxRecDepth 20000 in
theorem gX10_pair_X10_of : GoodIn wsX10_pair (wsV RX10 187 RX10 yX10_of wsX10_of) := goodIn_app (goodIn_of _ (by decide +kernel)) ggX10_pair_X10_of
theorem dX10_pair_0 : decode cX10_pair 0 = .ok (.aload_n 0, 1) := by decide +kernel
theorem dX10_pair_1 : decode cX10_pair 1 = .ok (.iconst 0, 1) := by decide +kernel
theorem dX10_pair_2 : decode cX10_pair 2 = .ok (.putfield 70, 3) := by decide +kernel
theorem dX10_pair_5 : decode cX10_pair 5 = .ok (.aload_n 0, 1) := by decide +kernel
theorem dX10_pair_6 : decode cX10_pair 6 = .ok (.iload_n 1, 1) := by decide +kernel
theorem dX10_pair_7 : decode cX10_pair 7 = .ok (.invokevirtual 203, 3) := by decide +kernel
theorem dX10_pair_10 : decode cX10_pair 10 = .ok (.ifCond .eq 28, 3) := by decide +kernel
theorem dX10_pair_13 : decode cX10_pair 13 = .ok (.iload_n 2, 1) := by decide +kernel
theorem dX10_pair_14 : decode cX10_pair 14 = .ok (.iconst 0, 1) := by decide +kernel
theorem dX10_pair_15 : decode cX10_pair 15 = .ok (.iconst 1, 1) := by decide +kernel
theorem dX10_pair_16 : decode cX10_pair 16 = .ok (.invokestatic 138, 3) := by decide +kernel
theorem dX10_pair_19 : decode cX10_pair 19 = .ok (.ifCond .eq 19, 3) := by decide +kernel
theorem dX10_pair_22 : decode cX10_pair 22 = .ok (.iload_n 3, 1) := by decide +kernel
theorem dX10_pair_23 : decode cX10_pair 23 = .ok (.iconst 0, 1) := by decide +kernel
theorem dX10_pair_24 : decode cX10_pair 24 = .ok (.iconst 1, 1) := by decide +kernel
theorem dX10_pair_25 : decode cX10_pair 25 = .ok (.invokestatic 138, 3) := by decide +kernel
theorem dX10_pair_28 : decode cX10_pair 28 = .ok (.ifCond .eq 10, 3) := by decide +kernel
theorem dX10_pair_31 : decode cX10_pair 31 = .ok (.aload_n 0, 1) := by decide +kernel
theorem dX10_pair_32 : decode cX10_pair 32 = .ok (.invokevirtual 283, 3) := by decide +kernel
theorem dX10_pair_35 : decode cX10_pair 35 = .ok (.ifCond .ne 6, 3) := by decide +kernel
theorem dX10_pair_38 : decode cX10_pair 38 = .ok (.ldc 206, 2) := by decide +kernel
theorem dX10_pair_40 : decode cX10_pair 40 = .ok (.ireturn, 1) := by decide +kernel
theorem dX10_pair_41 : decode cX10_pair 41 = .ok (.aload_n 0, 1) := by decide +kernel
theorem dX10_pair_42 : decode cX10_pair 42 = .ok (.iload_n 1, 1) := by decide +kernel
theorem dX10_pair_43 : decode cX10_pair 43 = .ok (.invokevirtual 347, 3) := by decide +kernel
theorem dX10_pair_46 : decode cX10_pair 46 = .ok (.istore 4, 2) := by decide +kernel
theorem dX10_pair_48 : decode cX10_pair 48 = .ok (.iload_n 3, 1) := by decide +kernel
theorem dX10_pair_49 : decode cX10_pair 49 = .ok (.ifCond .ne 41, 3) := by decide +kernel
theorem dX10_pair_52 : decode cX10_pair 52 = .ok (.iload_n 2, 1) := by decide +kernel
theorem dX10_pair_53 : decode cX10_pair 53 = .ok (.ifCond .ne 18, 3) := by decide +kernel
theorem dX10_pair_56 : decode cX10_pair 56 = .ok (.aload_n 0, 1) := by decide +kernel
theorem dX10_pair_57 : decode cX10_pair 57 = .ok (.iload_n 1, 1) := by decide +kernel
theorem dX10_pair_58 : decode cX10_pair 58 = .ok (.invokevirtual 187, 3) := by decide +kernel
theorem dX10_pair_61 : decode cX10_pair 61 = .ok (.aload_n 0, 1) := by decide +kernel
theorem dX10_pair_62 : decode cX10_pair 62 = .ok (.iload 4, 2) := by decide +kernel
theorem dX10_pair_64 : decode cX10_pair 64 = .ok (.invokevirtual 187, 3) := by decide +kernel
theorem dX10_pair_67 : decode cX10_pair 67 = .ok (.iadd, 1) := by decide +kernel
theorem dX10_pair_68 : decode cX10_pair 68 = .ok (.goto 21, 3) := by decide +kernel
theorem dX10_pair_71 : decode cX10_pair 71 = .ok (.aload_n 0, 1) := by decide +kernel
theorem dX10_pair_72 : decode cX10_pair 72 = .ok (.bipush 32, 2) := by decide +kernel
theorem dX10_pair_74 : decode cX10_pair 74 = .ok (.iload_n 1, 1) := by decide +kernel
theorem dX10_pair_75 : decode cX10_pair 75 = .ok (.iadd, 1) := by decide +kernel
theorem dX10_pair_76 : decode cX10_pair 76 = .ok (.invokevirtual 187, 3) := by decide +kernel
theorem dX10_pair_79 : decode cX10_pair 79 = .ok (.aload_n 0, 1) := by decide +kernel
theorem dX10_pair_80 : decode cX10_pair 80 = .ok (.bipush 32, 2) := by decide +kernel
theorem dX10_pair_82 : decode cX10_pair 82 = .ok (.iload 4, 2) := by decide +kernel
theorem dX10_pair_84 : decode cX10_pair 84 = .ok (.iadd, 1) := by decide +kernel
theorem dX10_pair_85 : decode cX10_pair 85 = .ok (.invokevirtual 187, 3) := by decide +kernel
theorem dX10_pair_88 : decode cX10_pair 88 = .ok (.iadd, 1) := by decide +kernel
theorem dX10_pair_89 : decode cX10_pair 89 = .ok (.ireturn, 1) := by decide +kernel
theorem dX10_pair_90 : decode cX10_pair 90 = .ok (.iload_n 2, 1) := by decide +kernel
theorem dX10_pair_91 : decode cX10_pair 91 = .ok (.ifCond .ne 24, 3) := by decide +kernel
theorem dX10_pair_94 : decode cX10_pair 94 = .ok (.aload_n 0, 1) := by decide +kernel
theorem dX10_pair_95 : decode cX10_pair 95 = .ok (.bipush 32, 2) := by decide +kernel
theorem dX10_pair_97 : decode cX10_pair 97 = .ok (.iload_n 1, 1) := by decide +kernel
theorem dX10_pair_98 : decode cX10_pair 98 = .ok (.iadd, 1) := by decide +kernel
theorem dX10_pair_99 : decode cX10_pair 99 = .ok (.invokevirtual 187, 3) := by decide +kernel
theorem dX10_pair_102 : decode cX10_pair 102 = .ok (.aload_n 0, 1) := by decide +kernel
theorem dX10_pair_103 : decode cX10_pair 103 = .ok (.bipush 32, 2) := by decide +kernel
theorem dX10_pair_105 : decode cX10_pair 105 = .ok (.iload 4, 2) := by decide +kernel
theorem dX10_pair_107 : decode cX10_pair 107 = .ok (.iadd, 1) := by decide +kernel
theorem dX10_pair_108 : decode cX10_pair 108 = .ok (.invokevirtual 187, 3) := by decide +kernel
theorem dX10_pair_111 : decode cX10_pair 111 = .ok (.isub, 1) := by decide +kernel
theorem dX10_pair_112 : decode cX10_pair 112 = .ok (.goto 15, 3) := by decide +kernel
theorem dX10_pair_115 : decode cX10_pair 115 = .ok (.aload_n 0, 1) := by decide +kernel
theorem dX10_pair_116 : decode cX10_pair 116 = .ok (.iload 4, 2) := by decide +kernel
theorem dX10_pair_118 : decode cX10_pair 118 = .ok (.invokevirtual 187, 3) := by decide +kernel
theorem dX10_pair_121 : decode cX10_pair 121 = .ok (.aload_n 0, 1) := by decide +kernel
theorem dX10_pair_122 : decode cX10_pair 122 = .ok (.iload_n 1, 1) := by decide +kernel
theorem dX10_pair_123 : decode cX10_pair 123 = .ok (.invokevirtual 187, 3) := by decide +kernel
theorem dX10_pair_126 : decode cX10_pair 126 = .ok (.isub, 1) := by decide +kernel
theorem dX10_pair_127 : decode cX10_pair 127 = .ok (.ireturn, 1) := by decide +kernel
set_option maxRecDepth 20000 in
theorem ggX10_alikeBy_X10_size : GoodIn wsX10_alikeBy wsX10_size := goodIn_r _ [5, 6, 13, 14, 15, 16, 17, 18, 19, 20, 21, 22, 23, 24, 25, 26, 27, 28, 29, 30, 31, 32, 33, 34, 35, 36, 37, 38, 39, 40, 41, 42, 43, 44, 45, 46, 47, 48, 49] (by decide +kernel) (by decide +kernel)
set_option maxRecDepth 20000 in
theorem gX10_alikeBy_X10_size : GoodIn wsX10_alikeBy (wsV RX10 196 RX10 yX10_size wsX10_size) := goodIn_app (goodIn_of _ (by decide +kernel)) ggX10_alikeBy_X10_size
set_option maxRecDepth 20000 in
theorem ggX10_alikeBy_X10_of : GoodIn wsX10_alikeBy wsX10_of := goodIn_r _ [10, 11, 12, 13, 14, 15, 16, 17, 18, 19, 20, 21, 22, 23, 24, 25, 26, 27, 28, 29, 30, 31, 32, 33, 34, 35, 36, 37, 38, 39, 40, 41, 42, 43, 44, 45, 46, 47, 48, 49] (by decide +kernel) (by decide +kernel)
set_option maxRecDepth 20000 in
theorem gX10_alikeBy_X10_of : GoodIn wsX10_alikeBy (wsV RX10 187 RX10 yX10_of wsX10_of) := goodIn_app (goodIn_of _ (by decide +kernel)) ggX10_alikeBy_X10_of
theorem dX10_alikeBy_0 : decode cX10_alikeBy 0 = .ok (.lconst 0, 1) := by decide +kernel
theorem dX10_alikeBy_1 : decode cX10_alikeBy 1 = .ok (.lstore_n 3, 1) := by decide +kernel
theorem dX10_alikeBy_2 : decode cX10_alikeBy 2 = .ok (.iconst 0, 1) := by decide +kernel
theorem dX10_alikeBy_3 : decode cX10_alikeBy 3 = .ok (.istore 5, 2) := by decide +kernel
theorem dX10_alikeBy_5 : decode cX10_alikeBy 5 = .ok (.iload 5, 2) := by decide +kernel
theorem dX10_alikeBy_7 : decode cX10_alikeBy 7 = .ok (.aload_n 0, 1) := by decide +kernel
theorem dX10_alikeBy_8 : decode cX10_alikeBy 8 = .ok (.invokevirtual 196, 3) := by decide +kernel
theorem dX10_alikeBy_11 : decode cX10_alikeBy 11 = .ok (.if_icmp .ge 39, 3) := by decide +kernel
theorem dX10_alikeBy_14 : decode cX10_alikeBy 14 = .ok (.lload_n 3, 1) := by decide +kernel
theorem dX10_alikeBy_15 : decode cX10_alikeBy 15 = .ok (.aload_n 0, 1) := by decide +kernel
theorem dX10_alikeBy_16 : decode cX10_alikeBy 16 = .ok (.bipush 64, 2) := by decide +kernel
theorem dX10_alikeBy_18 : decode cX10_alikeBy 18 = .ok (.iload 5, 2) := by decide +kernel
theorem dX10_alikeBy_20 : decode cX10_alikeBy 20 = .ok (.iadd, 1) := by decide +kernel
theorem dX10_alikeBy_21 : decode cX10_alikeBy 21 = .ok (.invokevirtual 187, 3) := by decide +kernel
theorem dX10_alikeBy_24 : decode cX10_alikeBy 24 = .ok (.i2l, 1) := by decide +kernel
theorem dX10_alikeBy_25 : decode cX10_alikeBy 25 = .ok (.aload_n 0, 1) := by decide +kernel
theorem dX10_alikeBy_26 : decode cX10_alikeBy 26 = .ok (.iload_n 2, 1) := by decide +kernel
theorem dX10_alikeBy_27 : decode cX10_alikeBy 27 = .ok (.iload 5, 2) := by decide +kernel
theorem dX10_alikeBy_29 : decode cX10_alikeBy 29 = .ok (.iload_n 1, 1) := by decide +kernel
theorem dX10_alikeBy_30 : decode cX10_alikeBy 30 = .ok (.iadd, 1) := by decide +kernel
theorem dX10_alikeBy_31 : decode cX10_alikeBy 31 = .ok (.aload_n 0, 1) := by decide +kernel
theorem dX10_alikeBy_32 : decode cX10_alikeBy 32 = .ok (.invokevirtual 196, 3) := by decide +kernel
theorem dX10_alikeBy_35 : decode cX10_alikeBy 35 = .ok (.irem, 1) := by decide +kernel
theorem dX10_alikeBy_36 : decode cX10_alikeBy 36 = .ok (.iadd, 1) := by decide +kernel
theorem dX10_alikeBy_37 : decode cX10_alikeBy 37 = .ok (.invokevirtual 187, 3) := by decide +kernel
theorem dX10_alikeBy_40 : decode cX10_alikeBy 40 = .ok (.i2l, 1) := by decide +kernel
theorem dX10_alikeBy_41 : decode cX10_alikeBy 41 = .ok (.lmul, 1) := by decide +kernel
theorem dX10_alikeBy_42 : decode cX10_alikeBy 42 = .ok (.ladd, 1) := by decide +kernel
theorem dX10_alikeBy_43 : decode cX10_alikeBy 43 = .ok (.lstore_n 3, 1) := by decide +kernel
theorem dX10_alikeBy_44 : decode cX10_alikeBy 44 = .ok (.iinc 5 1, 3) := by decide +kernel
theorem dX10_alikeBy_47 : decode cX10_alikeBy 47 = .ok (.goto (-42), 3) := by decide +kernel
theorem dX10_alikeBy_50 : decode cX10_alikeBy 50 = .ok (.lload_n 3, 1) := by decide +kernel
theorem dX10_alikeBy_51 : decode cX10_alikeBy 51 = .ok (.lreturn, 1) := by decide +kernel
set_option maxRecDepth 20000 in
theorem ggX10_mostAlike_X10_size : GoodIn wsX10_mostAlike wsX10_size := goodIn_r _ [5, 6, 17, 18, 19, 20, 21, 22, 23, 24, 25, 26, 27, 28, 29, 30, 31, 32, 33, 34, 35, 36, 37, 38, 39, 40, 41, 42, 43, 44, 45, 46, 47, 48, 49, 50, 51, 52, 53] (by decide +kernel) (by decide +kernel)
set_option maxRecDepth 20000 in
theorem gX10_mostAlike_X10_size : GoodIn wsX10_mostAlike (wsV RX10 196 RX10 yX10_size wsX10_size) := goodIn_app (goodIn_of _ (by decide +kernel)) ggX10_mostAlike_X10_size
set_option maxRecDepth 20000 in
theorem ggX10_mostAlike_X10_alikeBy : GoodIn wsX10_mostAlike wsX10_alikeBy := goodIn_r _ [10, 1, 2, 3, 4, 5, 6, 11, 12, 13, 14, 15, 16, 17, 18, 19, 20, 21, 22, 23, 24, 25, 26, 27, 28, 29, 30, 31, 32, 33, 34, 35, 36, 37, 38, 39, 40, 41, 42, 43, 44, 45, 46, 47, 48, 49, 50, 51, 52, 53] (by decide +kernel) (by decide +kernel)
set_option maxRecDepth 20000 in
theorem gX10_mostAlike_X10_alikeBy : GoodIn wsX10_mostAlike (wsV RX10 350 RX10 yX10_alikeBy wsX10_alikeBy) := goodIn_app (goodIn_of _ (by decide +kernel)) ggX10_mostAlike_X10_alikeBy
theorem dX10_mostAlike_0 : decode cX10_mostAlike 0 = .ok (.iload_n 1, 1) := by decide +kernel
theorem dX10_mostAlike_1 : decode cX10_mostAlike 1 = .ok (.istore_n 3, 1) := by decide +kernel
theorem dX10_mostAlike_2 : decode cX10_mostAlike 2 = .ok (.iload_n 1, 1) := by decide +kernel
theorem dX10_mostAlike_3 : decode cX10_mostAlike 3 = .ok (.iconst 1, 1) := by decide +kernel
theorem dX10_mostAlike_4 : decode cX10_mostAlike 4 = .ok (.iadd, 1) := by decide +kernel
theorem dX10_mostAlike_5 : decode cX10_mostAlike 5 = .ok (.istore 4, 2) := by decide +kernel
theorem dX10_mostAlike_7 : decode cX10_mostAlike 7 = .ok (.iload 4, 2) := by decide +kernel
theorem dX10_mostAlike_9 : decode cX10_mostAlike 9 = .ok (.aload_n 0, 1) := by decide +kernel
theorem dX10_mostAlike_10 : decode cX10_mostAlike 10 = .ok (.invokevirtual 196, 3) := by decide +kernel
theorem dX10_mostAlike_13 : decode cX10_mostAlike 13 = .ok (.if_icmp .ge 33, 3) := by decide +kernel
theorem dX10_mostAlike_16 : decode cX10_mostAlike 16 = .ok (.aload_n 0, 1) := by decide +kernel
theorem dX10_mostAlike_17 : decode cX10_mostAlike 17 = .ok (.iload 4, 2) := by decide +kernel
theorem dX10_mostAlike_19 : decode cX10_mostAlike 19 = .ok (.iload_n 2, 1) := by decide +kernel
theorem dX10_mostAlike_20 : decode cX10_mostAlike 20 = .ok (.invokevirtual 350, 3) := by decide +kernel
theorem dX10_mostAlike_23 : decode cX10_mostAlike 23 = .ok (.aload_n 0, 1) := by decide +kernel
theorem dX10_mostAlike_24 : decode cX10_mostAlike 24 = .ok (.iload_n 3, 1) := by decide +kernel
theorem dX10_mostAlike_25 : decode cX10_mostAlike 25 = .ok (.iload_n 2, 1) := by decide +kernel
theorem dX10_mostAlike_26 : decode cX10_mostAlike 26 = .ok (.invokevirtual 350, 3) := by decide +kernel
theorem dX10_mostAlike_29 : decode cX10_mostAlike 29 = .ok (.lcmp, 1) := by decide +kernel
theorem dX10_mostAlike_30 : decode cX10_mostAlike 30 = .ok (.ifCond .le 8, 3) := by decide +kernel
theorem dX10_mostAlike_33 : decode cX10_mostAlike 33 = .ok (.iload 4, 2) := by decide +kernel
theorem dX10_mostAlike_35 : decode cX10_mostAlike 35 = .ok (.goto 4, 3) := by decide +kernel
theorem dX10_mostAlike_38 : decode cX10_mostAlike 38 = .ok (.iload_n 3, 1) := by decide +kernel
theorem dX10_mostAlike_39 : decode cX10_mostAlike 39 = .ok (.istore_n 3, 1) := by decide +kernel
theorem dX10_mostAlike_40 : decode cX10_mostAlike 40 = .ok (.iinc 4 1, 3) := by decide +kernel
theorem dX10_mostAlike_43 : decode cX10_mostAlike 43 = .ok (.goto (-36), 3) := by decide +kernel
theorem dX10_mostAlike_46 : decode cX10_mostAlike 46 = .ok (.iload_n 3, 1) := by decide +kernel
theorem dX10_mostAlike_47 : decode cX10_mostAlike 47 = .ok (.ireturn, 1) := by decide +kernel
set_option maxRecDepth 20000 in
theorem ggX10_like_X10_isPlace : GoodIn wsX10_like wsX10_isPlace := goodIn_r _ [7, 8, 9, 10, 6, 11, 12, 23, 24, 25, 26, 27, 28, 29, 30, 31, 32, 33, 34, 35, 36, 37, 38, 39, 40, 41, 42, 43, 44, 45, 46, 47, 48, 49, 50, 51, 52, 53, 54, 55, 56, 57, 58, 59] (by decide +kernel) (by decide +kernel)
set_option maxRecDepth 20000 in
theorem gX10_like_X10_isPlace : GoodIn wsX10_like (wsV RX10 203 RX10 yX10_isPlace wsX10_isPlace) := goodIn_app (goodIn_of _ (by decide +kernel)) ggX10_like_X10_isPlace
set_option maxRecDepth 20000 in
theorem ggX10_like_X10_alikeBy : GoodIn wsX10_like wsX10_alikeBy := goodIn_r _ [16, 8, 9, 10, 6, 11, 12, 17, 18, 19, 20, 21, 22, 23, 24, 25, 26, 27, 28, 29, 30, 31, 32, 33, 34, 35, 36, 37, 38, 39, 40, 41, 42, 43, 44, 45, 46, 47, 48, 49, 50, 51, 52, 53, 54, 55, 56, 57, 58, 59] (by decide +kernel) (by decide +kernel)
set_option maxRecDepth 20000 in
theorem gX10_like_X10_alikeBy : GoodIn wsX10_like (wsV RX10 350 RX10 yX10_alikeBy wsX10_alikeBy) := goodIn_app (goodIn_of _ (by decide +kernel)) ggX10_like_X10_alikeBy
theorem dX10_like_0 : decode cX10_like 0 = .ok (.aload_n 0, 1) := by decide +kernel
theorem dX10_like_1 : decode cX10_like 1 = .ok (.iconst 0, 1) := by decide +kernel
theorem dX10_like_2 : decode cX10_like 2 = .ok (.putfield 70, 3) := by decide +kernel
theorem dX10_like_5 : decode cX10_like 5 = .ok (.aload_n 0, 1) := by decide +kernel
theorem dX10_like_6 : decode cX10_like 6 = .ok (.iload_n 1, 1) := by decide +kernel
theorem dX10_like_7 : decode cX10_like 7 = .ok (.invokevirtual 203, 3) := by decide +kernel
theorem dX10_like_10 : decode cX10_like 10 = .ok (.ifCond .eq 13, 3) := by decide +kernel
theorem dX10_like_13 : decode cX10_like 13 = .ok (.aload_n 0, 1) := by decide +kernel
theorem dX10_like_14 : decode cX10_like 14 = .ok (.iload_n 1, 1) := by decide +kernel
theorem dX10_like_15 : decode cX10_like 15 = .ok (.bipush 64, 2) := by decide +kernel
theorem dX10_like_17 : decode cX10_like 17 = .ok (.invokevirtual 350, 3) := by decide +kernel
theorem dX10_like_20 : decode cX10_like 20 = .ok (.goto 6, 3) := by decide +kernel
theorem dX10_like_23 : decode cX10_like 23 = .ok (.ldc2_w 324, 3) := by decide +kernel
theorem dX10_like_26 : decode cX10_like 26 = .ok (.lreturn, 1) := by decide +kernel
set_option maxRecDepth 20000 in
theorem ggX10_period_X10_mostAlike : GoodIn wsX10_period wsX10_mostAlike := goodIn_r _ [6, 7, 8, 9, 5, 10, 11, 12, 13, 14, 15, 16, 17, 18, 19, 20, 21, 22, 23, 24, 25, 26, 27, 28, 29, 30, 31, 32, 33, 34, 35, 36, 37, 38, 39, 40, 41, 42, 43, 44, 45, 46, 47, 48, 49, 50, 51, 52, 53, 54, 55, 56, 57, 58] (by decide +kernel) (by decide +kernel)
set_option maxRecDepth 20000 in
theorem gX10_period_X10_mostAlike : GoodIn wsX10_period (wsV RX10 353 RX10 yX10_mostAlike wsX10_mostAlike) := goodIn_app (goodIn_of _ (by decide +kernel)) ggX10_period_X10_mostAlike
theorem dX10_period_0 : decode cX10_period 0 = .ok (.aload_n 0, 1) := by decide +kernel
theorem dX10_period_1 : decode cX10_period 1 = .ok (.iconst 0, 1) := by decide +kernel
theorem dX10_period_2 : decode cX10_period 2 = .ok (.putfield 70, 3) := by decide +kernel
theorem dX10_period_5 : decode cX10_period 5 = .ok (.aload_n 0, 1) := by decide +kernel
theorem dX10_period_6 : decode cX10_period 6 = .ok (.iconst 1, 1) := by decide +kernel
theorem dX10_period_7 : decode cX10_period 7 = .ok (.bipush 64, 2) := by decide +kernel
theorem dX10_period_9 : decode cX10_period 9 = .ok (.invokevirtual 353, 3) := by decide +kernel
theorem dX10_period_12 : decode cX10_period 12 = .ok (.ireturn, 1) := by decide +kernel
set_option maxRecDepth 20000 in
theorem ggX10_crossed_X10_isPlace : GoodIn wsX10_crossed wsX10_isPlace := goodIn_r _ [7, 8, 9, 10, 6, 11, 12, 23, 24, 25, 26, 27, 28, 29, 30, 31, 32, 33, 34, 35, 36, 37, 38, 39, 40, 41, 42, 43, 44, 45, 46, 47, 48, 49, 50, 51, 52, 53, 54, 55, 56, 57, 58, 59] (by decide +kernel) (by decide +kernel)
set_option maxRecDepth 20000 in
theorem gX10_crossed_X10_isPlace : GoodIn wsX10_crossed (wsV RX10 203 RX10 yX10_isPlace wsX10_isPlace) := goodIn_app (goodIn_of _ (by decide +kernel)) ggX10_crossed_X10_isPlace
set_option maxRecDepth 20000 in
theorem ggX10_crossed_X10_alikeBy : GoodIn wsX10_crossed wsX10_alikeBy := goodIn_r _ [16, 8, 9, 10, 6, 11, 12, 17, 18, 19, 20, 21, 22, 23, 24, 25, 26, 27, 28, 29, 30, 31, 32, 33, 34, 35, 36, 37, 38, 39, 40, 41, 42, 43, 44, 45, 46, 47, 48, 49, 50, 51, 52, 53, 54, 55, 56, 57, 58, 59] (by decide +kernel) (by decide +kernel)
set_option maxRecDepth 20000 in
theorem gX10_crossed_X10_alikeBy : GoodIn wsX10_crossed (wsV RX10 350 RX10 yX10_alikeBy wsX10_alikeBy) := goodIn_app (goodIn_of _ (by decide +kernel)) ggX10_crossed_X10_alikeBy
theorem dX10_crossed_0 : decode cX10_crossed 0 = .ok (.aload_n 0, 1) := by decide +kernel
theorem dX10_crossed_1 : decode cX10_crossed 1 = .ok (.iconst 0, 1) := by decide +kernel
theorem dX10_crossed_2 : decode cX10_crossed 2 = .ok (.putfield 70, 3) := by decide +kernel
theorem dX10_crossed_5 : decode cX10_crossed 5 = .ok (.aload_n 0, 1) := by decide +kernel
theorem dX10_crossed_6 : decode cX10_crossed 6 = .ok (.iload_n 1, 1) := by decide +kernel
theorem dX10_crossed_7 : decode cX10_crossed 7 = .ok (.invokevirtual 203, 3) := by decide +kernel
theorem dX10_crossed_10 : decode cX10_crossed 10 = .ok (.ifCond .eq 13, 3) := by decide +kernel
theorem dX10_crossed_13 : decode cX10_crossed 13 = .ok (.aload_n 0, 1) := by decide +kernel
theorem dX10_crossed_14 : decode cX10_crossed 14 = .ok (.iload_n 1, 1) := by decide +kernel
theorem dX10_crossed_15 : decode cX10_crossed 15 = .ok (.bipush 96, 2) := by decide +kernel
theorem dX10_crossed_17 : decode cX10_crossed 17 = .ok (.invokevirtual 350, 3) := by decide +kernel
theorem dX10_crossed_20 : decode cX10_crossed 20 = .ok (.goto 6, 3) := by decide +kernel
theorem dX10_crossed_23 : decode cX10_crossed 23 = .ok (.ldc2_w 324, 3) := by decide +kernel
theorem dX10_crossed_26 : decode cX10_crossed 26 = .ok (.lreturn, 1) := by decide +kernel
set_option maxRecDepth 20000 in
theorem ggX10_lag_X10_mostAlike : GoodIn wsX10_lag wsX10_mostAlike := goodIn_r _ [6, 7, 8, 9, 5, 10, 11, 12, 13, 14, 15, 16, 17, 18, 19, 20, 21, 22, 23, 24, 25, 26, 27, 28, 29, 30, 31, 32, 33, 34, 35, 36, 37, 38, 39, 40, 41, 42, 43, 44, 45, 46, 47, 48, 49, 50, 51, 52, 53, 54, 55, 56, 57, 58] (by decide +kernel) (by decide +kernel)
set_option maxRecDepth 20000 in
theorem gX10_lag_X10_mostAlike : GoodIn wsX10_lag (wsV RX10 353 RX10 yX10_mostAlike wsX10_mostAlike) := goodIn_app (goodIn_of _ (by decide +kernel)) ggX10_lag_X10_mostAlike
theorem dX10_lag_0 : decode cX10_lag 0 = .ok (.aload_n 0, 1) := by decide +kernel
theorem dX10_lag_1 : decode cX10_lag 1 = .ok (.iconst 0, 1) := by decide +kernel
theorem dX10_lag_2 : decode cX10_lag 2 = .ok (.putfield 70, 3) := by decide +kernel
theorem dX10_lag_5 : decode cX10_lag 5 = .ok (.aload_n 0, 1) := by decide +kernel
theorem dX10_lag_6 : decode cX10_lag 6 = .ok (.iconst 0, 1) := by decide +kernel
theorem dX10_lag_7 : decode cX10_lag 7 = .ok (.bipush 96, 2) := by decide +kernel
theorem dX10_lag_9 : decode cX10_lag 9 = .ok (.invokevirtual 353, 3) := by decide +kernel
theorem dX10_lag_12 : decode cX10_lag 12 = .ok (.ireturn, 1) := by decide +kernel
set_option maxRecDepth 20000 in
theorem ggX10_foldOf_X10_size : GoodIn wsX10_foldOf wsX10_size := goodIn_r _ [5, 6, 13, 14, 15, 16, 17, 18, 19, 20, 21, 22, 23, 24, 25, 26, 27, 28, 29, 30, 31, 32, 33, 34, 35, 36, 37, 38, 39, 40, 41, 42, 43, 44, 45, 46, 47, 48, 49] (by decide +kernel) (by decide +kernel)
set_option maxRecDepth 20000 in
theorem gX10_foldOf_X10_size : GoodIn wsX10_foldOf (wsV RX10 196 RX10 yX10_size wsX10_size) := goodIn_app (goodIn_of _ (by decide +kernel)) ggX10_foldOf_X10_size
set_option maxRecDepth 20000 in
theorem ggX10_foldOf_X10_of : GoodIn wsX10_foldOf wsX10_of := goodIn_r _ [10, 11, 12, 13, 14, 15, 16, 17, 18, 19, 20, 21, 22, 23, 24, 25, 26, 27, 28, 29, 30, 31, 32, 33, 34, 35, 36, 37, 38, 39, 40, 41, 42, 43, 44, 45, 46, 47, 48, 49] (by decide +kernel) (by decide +kernel)
set_option maxRecDepth 20000 in
theorem gX10_foldOf_X10_of : GoodIn wsX10_foldOf (wsV RX10 187 RX10 yX10_of wsX10_of) := goodIn_app (goodIn_of _ (by decide +kernel)) ggX10_foldOf_X10_of
theorem dX10_foldOf_0 : decode cX10_foldOf 0 = .ok (.lconst 0, 1) := by decide +kernel
theorem dX10_foldOf_1 : decode cX10_foldOf 1 = .ok (.lstore_n 2, 1) := by decide +kernel
theorem dX10_foldOf_2 : decode cX10_foldOf 2 = .ok (.iconst 0, 1) := by decide +kernel
theorem dX10_foldOf_3 : decode cX10_foldOf 3 = .ok (.istore 4, 2) := by decide +kernel
theorem dX10_foldOf_5 : decode cX10_foldOf 5 = .ok (.iload 4, 2) := by decide +kernel
theorem dX10_foldOf_7 : decode cX10_foldOf 7 = .ok (.aload_n 0, 1) := by decide +kernel
theorem dX10_foldOf_8 : decode cX10_foldOf 8 = .ok (.invokevirtual 196, 3) := by decide +kernel
theorem dX10_foldOf_11 : decode cX10_foldOf 11 = .ok (.if_icmp .ge 45, 3) := by decide +kernel
theorem dX10_foldOf_14 : decode cX10_foldOf 14 = .ok (.lload_n 2, 1) := by decide +kernel
theorem dX10_foldOf_15 : decode cX10_foldOf 15 = .ok (.aload_n 0, 1) := by decide +kernel
theorem dX10_foldOf_16 : decode cX10_foldOf 16 = .ok (.bipush 64, 2) := by decide +kernel
theorem dX10_foldOf_18 : decode cX10_foldOf 18 = .ok (.iload 4, 2) := by decide +kernel
theorem dX10_foldOf_20 : decode cX10_foldOf 20 = .ok (.iadd, 1) := by decide +kernel
theorem dX10_foldOf_21 : decode cX10_foldOf 21 = .ok (.invokevirtual 187, 3) := by decide +kernel
theorem dX10_foldOf_24 : decode cX10_foldOf 24 = .ok (.i2l, 1) := by decide +kernel
theorem dX10_foldOf_25 : decode cX10_foldOf 25 = .ok (.aload_n 0, 1) := by decide +kernel
theorem dX10_foldOf_26 : decode cX10_foldOf 26 = .ok (.bipush 96, 2) := by decide +kernel
theorem dX10_foldOf_28 : decode cX10_foldOf 28 = .ok (.iload_n 1, 1) := by decide +kernel
theorem dX10_foldOf_29 : decode cX10_foldOf 29 = .ok (.iload 4, 2) := by decide +kernel
theorem dX10_foldOf_31 : decode cX10_foldOf 31 = .ok (.isub, 1) := by decide +kernel
theorem dX10_foldOf_32 : decode cX10_foldOf 32 = .ok (.aload_n 0, 1) := by decide +kernel
theorem dX10_foldOf_33 : decode cX10_foldOf 33 = .ok (.invokevirtual 196, 3) := by decide +kernel
theorem dX10_foldOf_36 : decode cX10_foldOf 36 = .ok (.iadd, 1) := by decide +kernel
theorem dX10_foldOf_37 : decode cX10_foldOf 37 = .ok (.aload_n 0, 1) := by decide +kernel
theorem dX10_foldOf_38 : decode cX10_foldOf 38 = .ok (.invokevirtual 196, 3) := by decide +kernel
theorem dX10_foldOf_41 : decode cX10_foldOf 41 = .ok (.irem, 1) := by decide +kernel
theorem dX10_foldOf_42 : decode cX10_foldOf 42 = .ok (.iadd, 1) := by decide +kernel
theorem dX10_foldOf_43 : decode cX10_foldOf 43 = .ok (.invokevirtual 187, 3) := by decide +kernel
theorem dX10_foldOf_46 : decode cX10_foldOf 46 = .ok (.i2l, 1) := by decide +kernel
theorem dX10_foldOf_47 : decode cX10_foldOf 47 = .ok (.lmul, 1) := by decide +kernel
theorem dX10_foldOf_48 : decode cX10_foldOf 48 = .ok (.ladd, 1) := by decide +kernel
theorem dX10_foldOf_49 : decode cX10_foldOf 49 = .ok (.lstore_n 2, 1) := by decide +kernel
theorem dX10_foldOf_50 : decode cX10_foldOf 50 = .ok (.iinc 4 1, 3) := by decide +kernel
theorem dX10_foldOf_53 : decode cX10_foldOf 53 = .ok (.goto (-48), 3) := by decide +kernel
theorem dX10_foldOf_56 : decode cX10_foldOf 56 = .ok (.lload_n 2, 1) := by decide +kernel
theorem dX10_foldOf_57 : decode cX10_foldOf 57 = .ok (.lreturn, 1) := by decide +kernel
set_option maxRecDepth 20000 in
theorem ggX10_foldWhole_X10_isPlace : GoodIn wsX10_foldWhole wsX10_isPlace := goodIn_r _ [7, 8, 9, 10, 6, 11, 12, 23, 24, 25, 26, 27, 28, 29, 30, 31, 32, 33, 34, 35, 36, 37, 38, 39, 40, 41, 42, 43, 44, 45, 46, 47, 48, 49, 50, 51, 52, 53, 54, 55, 56, 57, 58, 59] (by decide +kernel) (by decide +kernel)
set_option maxRecDepth 20000 in
theorem gX10_foldWhole_X10_isPlace : GoodIn wsX10_foldWhole (wsV RX10 203 RX10 yX10_isPlace wsX10_isPlace) := goodIn_app (goodIn_of _ (by decide +kernel)) ggX10_foldWhole_X10_isPlace
set_option maxRecDepth 20000 in
theorem ggX10_foldWhole_X10_foldOf : GoodIn wsX10_foldWhole wsX10_foldOf := goodIn_r _ [16, 8, 9, 10, 6, 11, 12, 17, 18, 19, 20, 21, 22, 23, 24, 25, 26, 27, 28, 29, 30, 31, 32, 33, 34, 35, 36, 37, 38, 39, 40, 41, 42, 43, 44, 45, 46, 47, 48, 49, 50, 51, 52, 53, 54, 55, 56, 57, 58, 59] (by decide +kernel) (by decide +kernel)
set_option maxRecDepth 20000 in
theorem gX10_foldWhole_X10_foldOf : GoodIn wsX10_foldWhole (wsV RX10 356 RX10 yX10_foldOf wsX10_foldOf) := goodIn_app (goodIn_of _ (by decide +kernel)) ggX10_foldWhole_X10_foldOf
theorem dX10_foldWhole_0 : decode cX10_foldWhole 0 = .ok (.aload_n 0, 1) := by decide +kernel
theorem dX10_foldWhole_1 : decode cX10_foldWhole 1 = .ok (.iconst 0, 1) := by decide +kernel
theorem dX10_foldWhole_2 : decode cX10_foldWhole 2 = .ok (.putfield 70, 3) := by decide +kernel
theorem dX10_foldWhole_5 : decode cX10_foldWhole 5 = .ok (.aload_n 0, 1) := by decide +kernel
theorem dX10_foldWhole_6 : decode cX10_foldWhole 6 = .ok (.iload_n 1, 1) := by decide +kernel
theorem dX10_foldWhole_7 : decode cX10_foldWhole 7 = .ok (.invokevirtual 203, 3) := by decide +kernel
theorem dX10_foldWhole_10 : decode cX10_foldWhole 10 = .ok (.ifCond .eq 11, 3) := by decide +kernel
theorem dX10_foldWhole_13 : decode cX10_foldWhole 13 = .ok (.aload_n 0, 1) := by decide +kernel
theorem dX10_foldWhole_14 : decode cX10_foldWhole 14 = .ok (.iload_n 1, 1) := by decide +kernel
theorem dX10_foldWhole_15 : decode cX10_foldWhole 15 = .ok (.invokevirtual 356, 3) := by decide +kernel
theorem dX10_foldWhole_18 : decode cX10_foldWhole 18 = .ok (.goto 6, 3) := by decide +kernel
theorem dX10_foldWhole_21 : decode cX10_foldWhole 21 = .ok (.ldc2_w 324, 3) := by decide +kernel
theorem dX10_foldWhole_24 : decode cX10_foldWhole 24 = .ok (.lreturn, 1) := by decide +kernel
set_option maxRecDepth 20000 in
theorem ggX10_swing_X10_isPlace : GoodIn wsX10_swing wsX10_isPlace := goodIn_r _ [8, 9, 10, 11, 7, 12, 13, 37, 38, 39, 40, 41, 42, 43, 44, 45, 46, 47, 48, 49, 50, 51, 52, 53, 54, 55, 56, 57, 58, 59, 60, 61, 62, 63, 64, 65, 66, 67, 68, 69, 70, 71, 72, 73] (by decide +kernel) (by decide +kernel)
set_option maxRecDepth 20000 in
theorem gX10_swing_X10_isPlace : GoodIn wsX10_swing (wsV RX10 203 RX10 yX10_isPlace wsX10_isPlace) := goodIn_app (goodIn_of _ (by decide +kernel)) ggX10_swing_X10_isPlace
set_option maxRecDepth 20000 in
theorem ggX10_swing_X10_isIn : GoodIn wsX10_swing wsX10_isIn := goodIn_r _ [16] (by decide +kernel) (by decide +kernel)
set_option maxRecDepth 20000 in
theorem gX10_swing_X10_isIn : GoodIn wsX10_swing (va_wsS RX10 138 yX10_isIn wsX10_isIn) := goodIn_app (goodIn_of _ (by decide +kernel)) ggX10_swing_X10_isIn
set_option maxRecDepth 20000 in
theorem ggX10_swing_X10_size : GoodIn wsX10_swing wsX10_size := goodIn_r _ [12, 13, 37, 38, 39, 40, 41, 42, 43, 44, 45, 46, 47, 48, 49, 50, 51, 52, 53, 54, 55, 56, 57, 58, 59, 60, 61, 62, 63, 64, 65, 66, 67, 68, 69, 70, 71, 72, 73] (by decide +kernel) (by decide +kernel)
set_option maxRecDepth 20000 in
theorem gX10_swing_X10_size : GoodIn wsX10_swing (wsV RX10 196 RX10 yX10_size wsX10_size) := goodIn_app (goodIn_of _ (by decide +kernel)) ggX10_swing_X10_size
set_option maxRecDepth 20000 in
theorem ggX10_swing_X10_of : GoodIn wsX10_swing wsX10_of := goodIn_r _ [20, 21, 22, 37, 38, 39, 40, 41, 42, 43, 44, 45, 46, 47, 48, 49, 50, 51, 52, 53, 54, 55, 56, 57, 58, 59, 60, 61, 62, 63, 64, 65, 66, 67, 68, 69, 70, 71, 72, 73] (by decide +kernel) (by decide +kernel)
set_option maxRecDepth 20000 in
theorem gX10_swing_X10_of : GoodIn wsX10_swing (wsV RX10 187 RX10 yX10_of wsX10_of) := goodIn_app (goodIn_of _ (by decide +kernel)) ggX10_swing_X10_of
set_option maxRecDepth 20000 in
theorem ggX10_swing_X10_cosOf : GoodIn wsX10_swing wsX10_cosOf := goodIn_r _ [26, 9, 10, 11, 7, 12, 13, 27, 28, 29, 30, 31, 37, 38, 39, 40, 41, 42, 43, 44, 45, 46, 47, 48, 49, 50, 51, 52, 53, 54, 55, 56, 57, 58, 59, 60, 61, 62, 63, 64, 65, 66, 67, 68, 69, 70, 71, 72, 73] (by decide +kernel) (by decide +kernel)
set_option maxRecDepth 20000 in
theorem gX10_swing_X10_cosOf : GoodIn wsX10_swing (wsV RX10 207 RX10 yX10_cosOf wsX10_cosOf) := goodIn_app (goodIn_of _ (by decide +kernel)) ggX10_swing_X10_cosOf
set_option maxRecDepth 20000 in
theorem ggX10_swing_X10_rounded : GoodIn wsX10_swing wsX10_rounded := goodIn_r _ [35, 36, 37, 38, 39, 40, 41, 42, 43, 44, 45, 46, 47, 48, 49, 50, 51, 52, 53, 54, 55, 56, 57, 58, 59, 60, 61, 62, 63, 64, 65, 66, 67, 68, 69, 70, 71, 72, 73] (by decide +kernel) (by decide +kernel)
set_option maxRecDepth 20000 in
theorem gX10_swing_X10_rounded : GoodIn wsX10_swing (wsV RX10 240 RX10 yX10_rounded wsX10_rounded) := goodIn_app (goodIn_of _ (by decide +kernel)) ggX10_swing_X10_rounded
theorem dX10_swing_0 : decode cX10_swing 0 = .ok (.aload_n 0, 1) := by decide +kernel
theorem dX10_swing_1 : decode cX10_swing 1 = .ok (.iconst 0, 1) := by decide +kernel
theorem dX10_swing_2 : decode cX10_swing 2 = .ok (.putfield 70, 3) := by decide +kernel
theorem dX10_swing_5 : decode cX10_swing 5 = .ok (.aload_n 0, 1) := by decide +kernel
theorem dX10_swing_6 : decode cX10_swing 6 = .ok (.iload_n 1, 1) := by decide +kernel
theorem dX10_swing_7 : decode cX10_swing 7 = .ok (.invokevirtual 203, 3) := by decide +kernel
theorem dX10_swing_10 : decode cX10_swing 10 = .ok (.ifCond .eq 12, 3) := by decide +kernel
theorem dX10_swing_13 : decode cX10_swing 13 = .ok (.iload_n 2, 1) := by decide +kernel
theorem dX10_swing_14 : decode cX10_swing 14 = .ok (.iconst 0, 1) := by decide +kernel
theorem dX10_swing_15 : decode cX10_swing 15 = .ok (.iconst 1, 1) := by decide +kernel
theorem dX10_swing_16 : decode cX10_swing 16 = .ok (.invokestatic 138, 3) := by decide +kernel
theorem dX10_swing_19 : decode cX10_swing 19 = .ok (.ifCond .ne 7, 3) := by decide +kernel
theorem dX10_swing_22 : decode cX10_swing 22 = .ok (.ldc2_w 324, 3) := by decide +kernel
theorem dX10_swing_25 : decode cX10_swing 25 = .ok (.lreturn, 1) := by decide +kernel
theorem dX10_swing_26 : decode cX10_swing 26 = .ok (.lconst 0, 1) := by decide +kernel
theorem dX10_swing_27 : decode cX10_swing 27 = .ok (.lstore_n 3, 1) := by decide +kernel
theorem dX10_swing_28 : decode cX10_swing 28 = .ok (.lconst 0, 1) := by decide +kernel
theorem dX10_swing_29 : decode cX10_swing 29 = .ok (.lstore 5, 2) := by decide +kernel
theorem dX10_swing_31 : decode cX10_swing 31 = .ok (.iconst 0, 1) := by decide +kernel
theorem dX10_swing_32 : decode cX10_swing 32 = .ok (.istore 7, 2) := by decide +kernel
theorem dX10_swing_34 : decode cX10_swing 34 = .ok (.iload 7, 2) := by decide +kernel
theorem dX10_swing_36 : decode cX10_swing 36 = .ok (.aload_n 0, 1) := by decide +kernel
theorem dX10_swing_37 : decode cX10_swing 37 = .ok (.invokevirtual 196, 3) := by decide +kernel
theorem dX10_swing_40 : decode cX10_swing 40 = .ok (.if_icmp .ge 49, 3) := by decide +kernel
theorem dX10_swing_43 : decode cX10_swing 43 = .ok (.aload_n 0, 1) := by decide +kernel
theorem dX10_swing_44 : decode cX10_swing 44 = .ok (.bipush 64, 2) := by decide +kernel
theorem dX10_swing_46 : decode cX10_swing 46 = .ok (.iload 7, 2) := by decide +kernel
theorem dX10_swing_48 : decode cX10_swing 48 = .ok (.iadd, 1) := by decide +kernel
theorem dX10_swing_49 : decode cX10_swing 49 = .ok (.invokevirtual 187, 3) := by decide +kernel
theorem dX10_swing_52 : decode cX10_swing 52 = .ok (.i2l, 1) := by decide +kernel
theorem dX10_swing_53 : decode cX10_swing 53 = .ok (.aload_n 0, 1) := by decide +kernel
theorem dX10_swing_54 : decode cX10_swing 54 = .ok (.lload_n 3, 1) := by decide +kernel
theorem dX10_swing_55 : decode cX10_swing 55 = .ok (.ldc2_w 306, 3) := by decide +kernel
theorem dX10_swing_58 : decode cX10_swing 58 = .ok (.aload_n 0, 1) := by decide +kernel
theorem dX10_swing_59 : decode cX10_swing 59 = .ok (.iload_n 1, 1) := by decide +kernel
theorem dX10_swing_60 : decode cX10_swing 60 = .ok (.invokevirtual 207, 3) := by decide +kernel
theorem dX10_swing_63 : decode cX10_swing 63 = .ok (.i2l, 1) := by decide +kernel
theorem dX10_swing_64 : decode cX10_swing 64 = .ok (.lmul, 1) := by decide +kernel
theorem dX10_swing_65 : decode cX10_swing 65 = .ok (.lmul, 1) := by decide +kernel
theorem dX10_swing_66 : decode cX10_swing 66 = .ok (.bipush 14, 2) := by decide +kernel
theorem dX10_swing_68 : decode cX10_swing 68 = .ok (.invokevirtual 240, 3) := by decide +kernel
theorem dX10_swing_71 : decode cX10_swing 71 = .ok (.ladd, 1) := by decide +kernel
theorem dX10_swing_72 : decode cX10_swing 72 = .ok (.lload 5, 2) := by decide +kernel
theorem dX10_swing_74 : decode cX10_swing 74 = .ok (.lsub, 1) := by decide +kernel
theorem dX10_swing_75 : decode cX10_swing 75 = .ok (.lstore 8, 2) := by decide +kernel
theorem dX10_swing_77 : decode cX10_swing 77 = .ok (.lload_n 3, 1) := by decide +kernel
theorem dX10_swing_78 : decode cX10_swing 78 = .ok (.lstore 5, 2) := by decide +kernel
theorem dX10_swing_80 : decode cX10_swing 80 = .ok (.lload 8, 2) := by decide +kernel
theorem dX10_swing_82 : decode cX10_swing 82 = .ok (.lstore_n 3, 1) := by decide +kernel
theorem dX10_swing_83 : decode cX10_swing 83 = .ok (.iinc 7 1, 3) := by decide +kernel
theorem dX10_swing_86 : decode cX10_swing 86 = .ok (.goto (-52), 3) := by decide +kernel
theorem dX10_swing_89 : decode cX10_swing 89 = .ok (.iload_n 2, 1) := by decide +kernel
theorem dX10_swing_90 : decode cX10_swing 90 = .ok (.ifCond .ne 7, 3) := by decide +kernel
theorem dX10_swing_93 : decode cX10_swing 93 = .ok (.lload_n 3, 1) := by decide +kernel
theorem dX10_swing_94 : decode cX10_swing 94 = .ok (.goto 5, 3) := by decide +kernel
theorem dX10_swing_97 : decode cX10_swing 97 = .ok (.lload 5, 2) := by decide +kernel
theorem dX10_swing_99 : decode cX10_swing 99 = .ok (.lreturn, 1) := by decide +kernel
theorem dX10_inRing_0 : decode cX10_inRing 0 = .ok (.lload_n 0, 1) := by decide +kernel
theorem dX10_inRing_1 : decode cX10_inRing 1 = .ok (.ldc2_w 359, 3) := by decide +kernel
theorem dX10_inRing_4 : decode cX10_inRing 4 = .ok (.lrem, 1) := by decide +kernel
theorem dX10_inRing_5 : decode cX10_inRing 5 = .ok (.lstore_n 2, 1) := by decide +kernel
theorem dX10_inRing_6 : decode cX10_inRing 6 = .ok (.lload_n 2, 1) := by decide +kernel
theorem dX10_inRing_7 : decode cX10_inRing 7 = .ok (.lconst 0, 1) := by decide +kernel
theorem dX10_inRing_8 : decode cX10_inRing 8 = .ok (.lcmp, 1) := by decide +kernel
theorem dX10_inRing_9 : decode cX10_inRing 9 = .ok (.ifCond .ge 11, 3) := by decide +kernel
theorem dX10_inRing_12 : decode cX10_inRing 12 = .ok (.lload_n 2, 1) := by decide +kernel
theorem dX10_inRing_13 : decode cX10_inRing 13 = .ok (.ldc2_w 359, 3) := by decide +kernel
theorem dX10_inRing_16 : decode cX10_inRing 16 = .ok (.ladd, 1) := by decide +kernel
theorem dX10_inRing_17 : decode cX10_inRing 17 = .ok (.goto 4, 3) := by decide +kernel
theorem dX10_inRing_20 : decode cX10_inRing 20 = .ok (.lload_n 2, 1) := by decide +kernel
theorem dX10_inRing_21 : decode cX10_inRing 21 = .ok (.l2i, 1) := by decide +kernel
theorem dX10_inRing_22 : decode cX10_inRing 22 = .ok (.ireturn, 1) := by decide +kernel
set_option maxRecDepth 20000 in
theorem ggX10_root_X10_size : GoodIn wsX10_root wsX10_size := goodIn_r _ [6, 7, 8, 9, 10, 11, 12, 13, 14, 15, 16, 17, 18, 19, 20, 21, 22, 23, 24, 25, 26, 27, 28, 29, 30, 31, 32, 33, 34, 35, 36, 37, 38, 39, 40, 41, 42, 43, 44] (by decide +kernel) (by decide +kernel)
set_option maxRecDepth 20000 in
theorem gX10_root_X10_size : GoodIn wsX10_root (wsV RX10 196 RX10 yX10_size wsX10_size) := goodIn_app (goodIn_of _ (by decide +kernel)) ggX10_root_X10_size
theorem dX10_root_0 : decode cX10_root 0 = .ok (.aload_n 0, 1) := by decide +kernel
theorem dX10_root_1 : decode cX10_root 1 = .ok (.getfield 39, 3) := by decide +kernel
theorem dX10_root_4 : decode cX10_root 4 = .ok (.iload_n 1, 1) := by decide +kernel
theorem dX10_root_5 : decode cX10_root 5 = .ok (.aload_n 0, 1) := by decide +kernel
theorem dX10_root_6 : decode cX10_root 6 = .ok (.invokevirtual 196, 3) := by decide +kernel
theorem dX10_root_9 : decode cX10_root 9 = .ok (.irem, 1) := by decide +kernel
theorem dX10_root_10 : decode cX10_root 10 = .ok (.iaload, 1) := by decide +kernel
theorem dX10_root_11 : decode cX10_root 11 = .ok (.ireturn, 1) := by decide +kernel
set_option maxRecDepth 20000 in
theorem ggX10_binWith_X10_size : GoodIn wsX10_binWith wsX10_size := goodIn_r _ [5, 6, 22, 23, 24, 25, 26, 27, 28, 29, 30, 31, 32, 33, 34, 35, 36, 37, 38, 39, 40, 41, 42, 43, 44, 45, 46, 47, 48, 49, 50, 51, 52, 53, 54, 55, 56, 57, 58] (by decide +kernel) (by decide +kernel)
set_option maxRecDepth 20000 in
theorem gX10_binWith_X10_size : GoodIn wsX10_binWith (wsV RX10 196 RX10 yX10_size wsX10_size) := goodIn_app (goodIn_of _ (by decide +kernel)) ggX10_binWith_X10_size
set_option maxRecDepth 20000 in
theorem ggX10_binWith_X10_of : GoodIn wsX10_binWith wsX10_of := goodIn_r _ [10, 11, 12, 22, 23, 24, 25, 26, 27, 28, 29, 30, 31, 32, 33, 34, 35, 36, 37, 38, 39, 40, 41, 42, 43, 44, 45, 46, 47, 48, 49, 50, 51, 52, 53, 54, 55, 56, 57, 58] (by decide +kernel) (by decide +kernel)
set_option maxRecDepth 20000 in
theorem gX10_binWith_X10_of : GoodIn wsX10_binWith (wsV RX10 187 RX10 yX10_of wsX10_of) := goodIn_app (goodIn_of _ (by decide +kernel)) ggX10_binWith_X10_of
set_option maxRecDepth 20000 in
theorem ggX10_binWith_X10_root : GoodIn wsX10_binWith wsX10_root := goodIn_r _ [16, 17, 1, 2, 3, 4, 5, 6, 22, 23, 24, 25, 26, 27, 28, 29, 30, 31, 32, 33, 34, 35, 36, 37, 38, 39, 40, 41, 42, 43, 44, 45, 46, 47, 48, 49, 50, 51, 52, 53, 54, 55, 56, 57, 58] (by decide +kernel) (by decide +kernel)
set_option maxRecDepth 20000 in
theorem gX10_binWith_X10_root : GoodIn wsX10_binWith (wsV RX10 361 RX10 yX10_root wsX10_root) := goodIn_app (goodIn_of _ (by decide +kernel)) ggX10_binWith_X10_root
set_option maxRecDepth 20000 in
theorem ggX10_binWith_X10_inRing : GoodIn wsX10_binWith wsX10_inRing := goodIn_r _ [20, 21] (by decide +kernel) (by decide +kernel)
set_option maxRecDepth 20000 in
theorem gX10_binWith_X10_inRing : GoodIn wsX10_binWith (va_wsS RX10 364 yX10_inRing wsX10_inRing) := goodIn_app (goodIn_of _ (by decide +kernel)) ggX10_binWith_X10_inRing
theorem dX10_binWith_0 : decode cX10_binWith 0 = .ok (.lconst 0, 1) := by decide +kernel
theorem dX10_binWith_1 : decode cX10_binWith 1 = .ok (.lstore 4, 2) := by decide +kernel
theorem dX10_binWith_3 : decode cX10_binWith 3 = .ok (.iconst 0, 1) := by decide +kernel
theorem dX10_binWith_4 : decode cX10_binWith 4 = .ok (.istore 6, 2) := by decide +kernel
theorem dX10_binWith_6 : decode cX10_binWith 6 = .ok (.iload 6, 2) := by decide +kernel
theorem dX10_binWith_8 : decode cX10_binWith 8 = .ok (.aload_n 0, 1) := by decide +kernel
theorem dX10_binWith_9 : decode cX10_binWith 9 = .ok (.invokevirtual 196, 3) := by decide +kernel
theorem dX10_binWith_12 : decode cX10_binWith 12 = .ok (.if_icmp .ge 44, 3) := by decide +kernel
theorem dX10_binWith_15 : decode cX10_binWith 15 = .ok (.lload 4, 2) := by decide +kernel
theorem dX10_binWith_17 : decode cX10_binWith 17 = .ok (.iload 6, 2) := by decide +kernel
theorem dX10_binWith_19 : decode cX10_binWith 19 = .ok (.iload_n 2, 1) := by decide +kernel
theorem dX10_binWith_20 : decode cX10_binWith 20 = .ok (.if_icmp .ne 7, 3) := by decide +kernel
theorem dX10_binWith_23 : decode cX10_binWith 23 = .ok (.iload_n 3, 1) := by decide +kernel
theorem dX10_binWith_24 : decode cX10_binWith 24 = .ok (.goto 12, 3) := by decide +kernel
theorem dX10_binWith_27 : decode cX10_binWith 27 = .ok (.aload_n 0, 1) := by decide +kernel
theorem dX10_binWith_28 : decode cX10_binWith 28 = .ok (.bipush 64, 2) := by decide +kernel
theorem dX10_binWith_30 : decode cX10_binWith 30 = .ok (.iload 6, 2) := by decide +kernel
theorem dX10_binWith_32 : decode cX10_binWith 32 = .ok (.iadd, 1) := by decide +kernel
theorem dX10_binWith_33 : decode cX10_binWith 33 = .ok (.invokevirtual 187, 3) := by decide +kernel
theorem dX10_binWith_36 : decode cX10_binWith 36 = .ok (.i2l, 1) := by decide +kernel
theorem dX10_binWith_37 : decode cX10_binWith 37 = .ok (.aload_n 0, 1) := by decide +kernel
theorem dX10_binWith_38 : decode cX10_binWith 38 = .ok (.iload 6, 2) := by decide +kernel
theorem dX10_binWith_40 : decode cX10_binWith 40 = .ok (.iload_n 1, 1) := by decide +kernel
theorem dX10_binWith_41 : decode cX10_binWith 41 = .ok (.imul, 1) := by decide +kernel
theorem dX10_binWith_42 : decode cX10_binWith 42 = .ok (.invokevirtual 361, 3) := by decide +kernel
theorem dX10_binWith_45 : decode cX10_binWith 45 = .ok (.i2l, 1) := by decide +kernel
theorem dX10_binWith_46 : decode cX10_binWith 46 = .ok (.lmul, 1) := by decide +kernel
theorem dX10_binWith_47 : decode cX10_binWith 47 = .ok (.ladd, 1) := by decide +kernel
theorem dX10_binWith_48 : decode cX10_binWith 48 = .ok (.lstore 4, 2) := by decide +kernel
theorem dX10_binWith_50 : decode cX10_binWith 50 = .ok (.iinc 6 1, 3) := by decide +kernel
theorem dX10_binWith_53 : decode cX10_binWith 53 = .ok (.goto (-47), 3) := by decide +kernel
theorem dX10_binWith_56 : decode cX10_binWith 56 = .ok (.lload 4, 2) := by decide +kernel
theorem dX10_binWith_58 : decode cX10_binWith 58 = .ok (.invokestatic 364, 3) := by decide +kernel
theorem dX10_binWith_61 : decode cX10_binWith 61 = .ok (.ireturn, 1) := by decide +kernel
set_option maxRecDepth 20000 in
theorem ggX10_bin_X10_isPlace : GoodIn wsX10_bin wsX10_isPlace := goodIn_r _ [6, 7, 8, 9, 5, 10, 11, 31, 32, 33, 34, 35, 36, 37, 38, 39, 40, 41, 42, 43, 44, 45, 46, 47, 48, 49, 50, 51, 52, 53, 54, 55, 56, 57, 58, 59, 60, 61, 62, 63, 64, 65, 66, 67] (by decide +kernel) (by decide +kernel)
set_option maxRecDepth 20000 in
theorem gX10_bin_X10_isPlace : GoodIn wsX10_bin (wsV RX10 203 RX10 yX10_isPlace wsX10_isPlace) := goodIn_app (goodIn_of _ (by decide +kernel)) ggX10_bin_X10_isPlace
set_option maxRecDepth 20000 in
theorem ggX10_bin_X10_binWith : GoodIn wsX10_bin wsX10_binWith := goodIn_r _ [15, 7, 8, 9, 5, 10, 11, 16, 17, 18, 19, 20, 21, 22, 23, 24, 25, 26, 27, 28, 29, 30, 31, 32, 33, 34, 35, 36, 37, 38, 39, 40, 41, 42, 43, 44, 45, 46, 47, 48, 49, 50, 51, 52, 53, 54, 55, 56, 57, 58, 59, 60, 61, 62, 63, 64, 65, 66, 67] (by decide +kernel) (by decide +kernel)
set_option maxRecDepth 20000 in
theorem gX10_bin_X10_binWith : GoodIn wsX10_bin (wsV RX10 368 RX10 yX10_binWith wsX10_binWith) := goodIn_app (goodIn_of _ (by decide +kernel)) ggX10_bin_X10_binWith
theorem dX10_bin_0 : decode cX10_bin 0 = .ok (.aload_n 0, 1) := by decide +kernel
theorem dX10_bin_1 : decode cX10_bin 1 = .ok (.iconst 0, 1) := by decide +kernel
theorem dX10_bin_2 : decode cX10_bin 2 = .ok (.putfield 70, 3) := by decide +kernel
theorem dX10_bin_5 : decode cX10_bin 5 = .ok (.aload_n 0, 1) := by decide +kernel
theorem dX10_bin_6 : decode cX10_bin 6 = .ok (.iload_n 1, 1) := by decide +kernel
theorem dX10_bin_7 : decode cX10_bin 7 = .ok (.invokevirtual 203, 3) := by decide +kernel
theorem dX10_bin_10 : decode cX10_bin 10 = .ok (.ifCond .eq 13, 3) := by decide +kernel
theorem dX10_bin_13 : decode cX10_bin 13 = .ok (.aload_n 0, 1) := by decide +kernel
theorem dX10_bin_14 : decode cX10_bin 14 = .ok (.iload_n 1, 1) := by decide +kernel
theorem dX10_bin_15 : decode cX10_bin 15 = .ok (.iconst (-1), 1) := by decide +kernel
theorem dX10_bin_16 : decode cX10_bin 16 = .ok (.iconst 0, 1) := by decide +kernel
theorem dX10_bin_17 : decode cX10_bin 17 = .ok (.invokevirtual 368, 3) := by decide +kernel
theorem dX10_bin_20 : decode cX10_bin 20 = .ok (.goto 4, 3) := by decide +kernel
theorem dX10_bin_23 : decode cX10_bin 23 = .ok (.iconst (-1), 1) := by decide +kernel
theorem dX10_bin_24 : decode cX10_bin 24 = .ok (.ireturn, 1) := by decide +kernel
set_option maxRecDepth 20000 in
theorem ggX10_fold_X10_isPlace : GoodIn wsX10_fold wsX10_isPlace := goodIn_r _ [6, 7, 8, 9, 5, 10, 11, 26, 27, 28, 29, 30, 31, 32, 33, 34, 35, 36, 37, 38, 39, 40, 41, 42, 43, 44, 45, 46, 47, 48, 49, 50, 51, 52, 53, 54, 55, 56, 57, 58, 59, 60, 61, 62] (by decide +kernel) (by decide +kernel)
set_option maxRecDepth 20000 in
theorem gX10_fold_X10_isPlace : GoodIn wsX10_fold (wsV RX10 203 RX10 yX10_isPlace wsX10_isPlace) := goodIn_app (goodIn_of _ (by decide +kernel)) ggX10_fold_X10_isPlace
set_option maxRecDepth 20000 in
theorem ggX10_fold_X10_foldOf : GoodIn wsX10_fold wsX10_foldOf := goodIn_r _ [15, 7, 8, 9, 5, 10, 11, 16, 17, 18, 19, 20, 21, 26, 27, 28, 29, 30, 31, 32, 33, 34, 35, 36, 37, 38, 39, 40, 41, 42, 43, 44, 45, 46, 47, 48, 49, 50, 51, 52, 53, 54, 55, 56, 57, 58, 59, 60, 61, 62] (by decide +kernel) (by decide +kernel)
set_option maxRecDepth 20000 in
theorem gX10_fold_X10_foldOf : GoodIn wsX10_fold (wsV RX10 356 RX10 yX10_foldOf wsX10_foldOf) := goodIn_app (goodIn_of _ (by decide +kernel)) ggX10_fold_X10_foldOf
set_option maxRecDepth 20000 in
theorem ggX10_fold_X10_inRing : GoodIn wsX10_fold wsX10_inRing := goodIn_r _ [24, 25] (by decide +kernel) (by decide +kernel)
set_option maxRecDepth 20000 in
theorem gX10_fold_X10_inRing : GoodIn wsX10_fold (va_wsS RX10 364 yX10_inRing wsX10_inRing) := goodIn_app (goodIn_of _ (by decide +kernel)) ggX10_fold_X10_inRing
theorem dX10_fold_0 : decode cX10_fold 0 = .ok (.aload_n 0, 1) := by decide +kernel
theorem dX10_fold_1 : decode cX10_fold 1 = .ok (.iconst 0, 1) := by decide +kernel
theorem dX10_fold_2 : decode cX10_fold 2 = .ok (.putfield 70, 3) := by decide +kernel
theorem dX10_fold_5 : decode cX10_fold 5 = .ok (.aload_n 0, 1) := by decide +kernel
theorem dX10_fold_6 : decode cX10_fold 6 = .ok (.iload_n 1, 1) := by decide +kernel
theorem dX10_fold_7 : decode cX10_fold 7 = .ok (.invokevirtual 203, 3) := by decide +kernel
theorem dX10_fold_10 : decode cX10_fold 10 = .ok (.ifCond .eq 14, 3) := by decide +kernel
theorem dX10_fold_13 : decode cX10_fold 13 = .ok (.aload_n 0, 1) := by decide +kernel
theorem dX10_fold_14 : decode cX10_fold 14 = .ok (.iload_n 1, 1) := by decide +kernel
theorem dX10_fold_15 : decode cX10_fold 15 = .ok (.invokevirtual 356, 3) := by decide +kernel
theorem dX10_fold_18 : decode cX10_fold 18 = .ok (.invokestatic 364, 3) := by decide +kernel
theorem dX10_fold_21 : decode cX10_fold 21 = .ok (.goto 4, 3) := by decide +kernel
theorem dX10_fold_24 : decode cX10_fold 24 = .ok (.iconst (-1), 1) := by decide +kernel
theorem dX10_fold_25 : decode cX10_fold 25 = .ok (.ireturn, 1) := by decide +kernel
set_option maxRecDepth 20000 in
theorem ggX10_unfold_X10_isPlace : GoodIn wsX10_unfold wsX10_isPlace := goodIn_r _ [6, 7, 8, 9, 5, 10, 11, 20, 21, 22, 23, 24, 25, 26, 27, 28, 29, 30, 31, 32, 33, 34, 35, 36, 37, 38, 39, 40, 41, 42, 43, 44, 45, 46, 47, 48, 49, 50, 51, 52, 53, 54, 55, 56] (by decide +kernel) (by decide +kernel)
set_option maxRecDepth 20000 in
theorem gX10_unfold_X10_isPlace : GoodIn wsX10_unfold (wsV RX10 203 RX10 yX10_isPlace wsX10_isPlace) := goodIn_app (goodIn_of _ (by decide +kernel)) ggX10_unfold_X10_isPlace
set_option maxRecDepth 20000 in
theorem ggX10_unfold_X10_isIn : GoodIn wsX10_unfold wsX10_isIn := goodIn_r _ [14] (by decide +kernel) (by decide +kernel)
set_option maxRecDepth 20000 in
theorem gX10_unfold_X10_isIn : GoodIn wsX10_unfold (va_wsS RX10 138 yX10_isIn wsX10_isIn) := goodIn_app (goodIn_of _ (by decide +kernel)) ggX10_unfold_X10_isIn
set_option maxRecDepth 20000 in
theorem ggX10_unfold_X10_size : GoodIn wsX10_unfold wsX10_size := goodIn_r _ [10, 11, 20, 21, 22, 23, 24, 25, 26, 27, 28, 29, 30, 31, 32, 33, 34, 35, 36, 37, 38, 39, 40, 41, 42, 43, 44, 45, 46, 47, 48, 49, 50, 51, 52, 53, 54, 55, 56] (by decide +kernel) (by decide +kernel)
set_option maxRecDepth 20000 in
theorem gX10_unfold_X10_size : GoodIn wsX10_unfold (wsV RX10 196 RX10 yX10_size wsX10_size) := goodIn_app (goodIn_of _ (by decide +kernel)) ggX10_unfold_X10_size
set_option maxRecDepth 20000 in
theorem ggX10_unfold_X10_root : GoodIn wsX10_unfold wsX10_root := goodIn_r _ [18, 19, 7, 8, 9, 5, 10, 11, 20, 21, 22, 23, 24, 25, 26, 27, 28, 29, 30, 31, 32, 33, 34, 35, 36, 37, 38, 39, 40, 41, 42, 43, 44, 45, 46, 47, 48, 49, 50, 51, 52, 53, 54, 55, 56] (by decide +kernel) (by decide +kernel)
set_option maxRecDepth 20000 in
theorem gX10_unfold_X10_root : GoodIn wsX10_unfold (wsV RX10 361 RX10 yX10_root wsX10_root) := goodIn_app (goodIn_of _ (by decide +kernel)) ggX10_unfold_X10_root
theorem dX10_unfold_0 : decode cX10_unfold 0 = .ok (.aload_n 0, 1) := by decide +kernel
theorem dX10_unfold_1 : decode cX10_unfold 1 = .ok (.iconst 0, 1) := by decide +kernel
theorem dX10_unfold_2 : decode cX10_unfold 2 = .ok (.putfield 70, 3) := by decide +kernel
theorem dX10_unfold_5 : decode cX10_unfold 5 = .ok (.aload_n 0, 1) := by decide +kernel
theorem dX10_unfold_6 : decode cX10_unfold 6 = .ok (.iload_n 1, 1) := by decide +kernel
theorem dX10_unfold_7 : decode cX10_unfold 7 = .ok (.invokevirtual 203, 3) := by decide +kernel
theorem dX10_unfold_10 : decode cX10_unfold 10 = .ok (.ifCond .eq 21, 3) := by decide +kernel
theorem dX10_unfold_13 : decode cX10_unfold 13 = .ok (.iload_n 2, 1) := by decide +kernel
theorem dX10_unfold_14 : decode cX10_unfold 14 = .ok (.iconst 0, 1) := by decide +kernel
theorem dX10_unfold_15 : decode cX10_unfold 15 = .ok (.bipush 96, 2) := by decide +kernel
theorem dX10_unfold_17 : decode cX10_unfold 17 = .ok (.invokestatic 138, 3) := by decide +kernel
theorem dX10_unfold_20 : decode cX10_unfold 20 = .ok (.ifCond .eq 11, 3) := by decide +kernel
theorem dX10_unfold_23 : decode cX10_unfold 23 = .ok (.aload_n 0, 1) := by decide +kernel
theorem dX10_unfold_24 : decode cX10_unfold 24 = .ok (.iload_n 3, 1) := by decide +kernel
theorem dX10_unfold_25 : decode cX10_unfold 25 = .ok (.invokevirtual 203, 3) := by decide +kernel
theorem dX10_unfold_28 : decode cX10_unfold 28 = .ok (.ifCond .ne 5, 3) := by decide +kernel
theorem dX10_unfold_31 : decode cX10_unfold 31 = .ok (.iconst (-1), 1) := by decide +kernel
theorem dX10_unfold_32 : decode cX10_unfold 32 = .ok (.ireturn, 1) := by decide +kernel
theorem dX10_unfold_33 : decode cX10_unfold 33 = .ok (.iconst 1, 1) := by decide +kernel
theorem dX10_unfold_34 : decode cX10_unfold 34 = .ok (.istore 4, 2) := by decide +kernel
theorem dX10_unfold_36 : decode cX10_unfold 36 = .ok (.iload 4, 2) := by decide +kernel
theorem dX10_unfold_38 : decode cX10_unfold 38 = .ok (.aload_n 0, 1) := by decide +kernel
theorem dX10_unfold_39 : decode cX10_unfold 39 = .ok (.invokevirtual 196, 3) := by decide +kernel
theorem dX10_unfold_42 : decode cX10_unfold 42 = .ok (.imul, 1) := by decide +kernel
theorem dX10_unfold_43 : decode cX10_unfold 43 = .ok (.bipush 97, 2) := by decide +kernel
theorem dX10_unfold_45 : decode cX10_unfold 45 = .ok (.irem, 1) := by decide +kernel
theorem dX10_unfold_46 : decode cX10_unfold 46 = .ok (.iconst 1, 1) := by decide +kernel
theorem dX10_unfold_47 : decode cX10_unfold 47 = .ok (.if_icmp .eq 9, 3) := by decide +kernel
theorem dX10_unfold_50 : decode cX10_unfold 50 = .ok (.iinc 4 1, 3) := by decide +kernel
theorem dX10_unfold_53 : decode cX10_unfold 53 = .ok (.goto (-17), 3) := by decide +kernel
theorem dX10_unfold_56 : decode cX10_unfold 56 = .ok (.iload_n 2, 1) := by decide +kernel
theorem dX10_unfold_57 : decode cX10_unfold 57 = .ok (.aload_n 0, 1) := by decide +kernel
theorem dX10_unfold_58 : decode cX10_unfold 58 = .ok (.aload_n 0, 1) := by decide +kernel
theorem dX10_unfold_59 : decode cX10_unfold 59 = .ok (.invokevirtual 196, 3) := by decide +kernel
theorem dX10_unfold_62 : decode cX10_unfold 62 = .ok (.iload_n 3, 1) := by decide +kernel
theorem dX10_unfold_63 : decode cX10_unfold 63 = .ok (.iload_n 1, 1) := by decide +kernel
theorem dX10_unfold_64 : decode cX10_unfold 64 = .ok (.imul, 1) := by decide +kernel
theorem dX10_unfold_65 : decode cX10_unfold 65 = .ok (.aload_n 0, 1) := by decide +kernel
theorem dX10_unfold_66 : decode cX10_unfold 66 = .ok (.invokevirtual 196, 3) := by decide +kernel
theorem dX10_unfold_69 : decode cX10_unfold 69 = .ok (.irem, 1) := by decide +kernel
theorem dX10_unfold_70 : decode cX10_unfold 70 = .ok (.isub, 1) := by decide +kernel
theorem dX10_unfold_71 : decode cX10_unfold 71 = .ok (.invokevirtual 361, 3) := by decide +kernel
theorem dX10_unfold_74 : decode cX10_unfold 74 = .ok (.imul, 1) := by decide +kernel
theorem dX10_unfold_75 : decode cX10_unfold 75 = .ok (.bipush 97, 2) := by decide +kernel
theorem dX10_unfold_77 : decode cX10_unfold 77 = .ok (.irem, 1) := by decide +kernel
theorem dX10_unfold_78 : decode cX10_unfold 78 = .ok (.istore 5, 2) := by decide +kernel
theorem dX10_unfold_80 : decode cX10_unfold 80 = .ok (.iload 4, 2) := by decide +kernel
theorem dX10_unfold_82 : decode cX10_unfold 82 = .ok (.iload 5, 2) := by decide +kernel
theorem dX10_unfold_84 : decode cX10_unfold 84 = .ok (.imul, 1) := by decide +kernel
theorem dX10_unfold_85 : decode cX10_unfold 85 = .ok (.bipush 97, 2) := by decide +kernel
theorem dX10_unfold_87 : decode cX10_unfold 87 = .ok (.irem, 1) := by decide +kernel
theorem dX10_unfold_88 : decode cX10_unfold 88 = .ok (.ireturn, 1) := by decide +kernel
theorem dX10_notes1_0 : decode cX10_notes1 0 = .ok (.aload_n 0, 1) := by decide +kernel
theorem dX10_notes1_1 : decode cX10_notes1 1 = .ok (.getfield 132, 3) := by decide +kernel
theorem dX10_notes1_4 : decode cX10_notes1 4 = .ok (.bipush 24, 2) := by decide +kernel
theorem dX10_notes1_6 : decode cX10_notes1 6 = .ok (.if_icmp .ne 5, 3) := by decide +kernel
theorem dX10_notes1_9 : decode cX10_notes1 9 = .ok (.iconst (-1), 1) := by decide +kernel
theorem dX10_notes1_10 : decode cX10_notes1 10 = .ok (.ireturn, 1) := by decide +kernel
theorem dX10_notes1_11 : decode cX10_notes1 11 = .ok (.iconst 3, 1) := by decide +kernel
theorem dX10_notes1_12 : decode cX10_notes1 12 = .ok (.aload_n 0, 1) := by decide +kernel
theorem dX10_notes1_13 : decode cX10_notes1 13 = .ok (.getfield 132, 3) := by decide +kernel
theorem dX10_notes1_16 : decode cX10_notes1 16 = .ok (.imul, 1) := by decide +kernel
theorem dX10_notes1_17 : decode cX10_notes1 17 = .ok (.istore 4, 2) := by decide +kernel
theorem dX10_notes1_19 : decode cX10_notes1 19 = .ok (.aload_n 0, 1) := by decide +kernel
theorem dX10_notes1_20 : decode cX10_notes1 20 = .ok (.getfield 55, 3) := by decide +kernel
theorem dX10_notes1_23 : decode cX10_notes1 23 = .ok (.iload 4, 2) := by decide +kernel
theorem dX10_notes1_25 : decode cX10_notes1 25 = .ok (.iload_n 1, 1) := by decide +kernel
theorem dX10_notes1_26 : decode cX10_notes1 26 = .ok (.iastore, 1) := by decide +kernel
theorem dX10_notes1_27 : decode cX10_notes1 27 = .ok (.aload_n 0, 1) := by decide +kernel
theorem dX10_notes1_28 : decode cX10_notes1 28 = .ok (.getfield 55, 3) := by decide +kernel
theorem dX10_notes1_31 : decode cX10_notes1 31 = .ok (.iload 4, 2) := by decide +kernel
theorem dX10_notes1_33 : decode cX10_notes1 33 = .ok (.iconst 1, 1) := by decide +kernel
theorem dX10_notes1_34 : decode cX10_notes1 34 = .ok (.iadd, 1) := by decide +kernel
theorem dX10_notes1_35 : decode cX10_notes1 35 = .ok (.iload_n 2, 1) := by decide +kernel
theorem dX10_notes1_36 : decode cX10_notes1 36 = .ok (.iastore, 1) := by decide +kernel
theorem dX10_notes1_37 : decode cX10_notes1 37 = .ok (.aload_n 0, 1) := by decide +kernel
theorem dX10_notes1_38 : decode cX10_notes1 38 = .ok (.getfield 55, 3) := by decide +kernel
theorem dX10_notes1_41 : decode cX10_notes1 41 = .ok (.iload 4, 2) := by decide +kernel
theorem dX10_notes1_43 : decode cX10_notes1 43 = .ok (.iconst 2, 1) := by decide +kernel
theorem dX10_notes1_44 : decode cX10_notes1 44 = .ok (.iadd, 1) := by decide +kernel
theorem dX10_notes1_45 : decode cX10_notes1 45 = .ok (.iload_n 3, 1) := by decide +kernel
theorem dX10_notes1_46 : decode cX10_notes1 46 = .ok (.iastore, 1) := by decide +kernel
theorem dX10_notes1_47 : decode cX10_notes1 47 = .ok (.aload_n 0, 1) := by decide +kernel
theorem dX10_notes1_48 : decode cX10_notes1 48 = .ok (.dup, 1) := by decide +kernel
theorem dX10_notes1_49 : decode cX10_notes1 49 = .ok (.getfield 132, 3) := by decide +kernel
theorem dX10_notes1_52 : decode cX10_notes1 52 = .ok (.iconst 1, 1) := by decide +kernel
theorem dX10_notes1_53 : decode cX10_notes1 53 = .ok (.iadd, 1) := by decide +kernel
theorem dX10_notes1_54 : decode cX10_notes1 54 = .ok (.putfield 132, 3) := by decide +kernel
theorem dX10_notes1_57 : decode cX10_notes1 57 = .ok (.aload_n 0, 1) := by decide +kernel
theorem dX10_notes1_58 : decode cX10_notes1 58 = .ok (.getfield 132, 3) := by decide +kernel
theorem dX10_notes1_61 : decode cX10_notes1 61 = .ok (.iconst 1, 1) := by decide +kernel
theorem dX10_notes1_62 : decode cX10_notes1 62 = .ok (.isub, 1) := by decide +kernel
theorem dX10_notes1_63 : decode cX10_notes1 63 = .ok (.ireturn, 1) := by decide +kernel
set_option maxRecDepth 20000 in
theorem ggX10_note_X10_isPlace : GoodIn wsX10_note wsX10_isPlace := goodIn_r _ [6, 7, 8, 9, 5, 10, 11, 21, 22, 23, 24, 25, 26, 27, 28, 29, 30, 31, 32, 33, 34, 35, 36, 37, 38, 39, 40, 41, 42, 43, 44, 45, 46, 47, 48, 49, 50, 51, 52, 53, 54, 55, 56, 57] (by decide +kernel) (by decide +kernel)
set_option maxRecDepth 20000 in
theorem gX10_note_X10_isPlace : GoodIn wsX10_note (wsV RX10 203 RX10 yX10_isPlace wsX10_isPlace) := goodIn_app (goodIn_of _ (by decide +kernel)) ggX10_note_X10_isPlace
set_option maxRecDepth 20000 in
theorem ggX10_note_X10_isIn : GoodIn wsX10_note wsX10_isIn := goodIn_r _ [14] (by decide +kernel) (by decide +kernel)
set_option maxRecDepth 20000 in
theorem gX10_note_X10_isIn : GoodIn wsX10_note (va_wsS RX10 138 yX10_isIn wsX10_isIn) := goodIn_app (goodIn_of _ (by decide +kernel)) ggX10_note_X10_isIn
set_option maxRecDepth 20000 in
theorem ggX10_note_X10_notes1 : GoodIn wsX10_note wsX10_notes1 := goodIn_r _ [18, 19, 20, 21, 22, 23, 24, 25, 26, 27, 28, 29, 30, 31, 32, 33, 34, 35, 36, 37, 38, 39, 40, 41, 42, 43, 44, 45, 46, 47, 48, 49, 50, 51, 52, 53, 54, 55, 56, 57] (by decide +kernel) (by decide +kernel)
set_option maxRecDepth 20000 in
theorem gX10_note_X10_notes1 : GoodIn wsX10_note (wsV RX10 372 RX10 yX10_notes1 wsX10_notes1) := goodIn_app (goodIn_of _ (by decide +kernel)) ggX10_note_X10_notes1
theorem dX10_note_0 : decode cX10_note 0 = .ok (.aload_n 0, 1) := by decide +kernel
theorem dX10_note_1 : decode cX10_note 1 = .ok (.iconst 0, 1) := by decide +kernel
theorem dX10_note_2 : decode cX10_note 2 = .ok (.putfield 70, 3) := by decide +kernel
theorem dX10_note_5 : decode cX10_note 5 = .ok (.aload_n 0, 1) := by decide +kernel
theorem dX10_note_6 : decode cX10_note 6 = .ok (.iload_n 1, 1) := by decide +kernel
theorem dX10_note_7 : decode cX10_note 7 = .ok (.invokevirtual 203, 3) := by decide +kernel
theorem dX10_note_10 : decode cX10_note 10 = .ok (.ifCond .eq 31, 3) := by decide +kernel
theorem dX10_note_13 : decode cX10_note 13 = .ok (.iload_n 2, 1) := by decide +kernel
theorem dX10_note_14 : decode cX10_note 14 = .ok (.iconst 0, 1) := by decide +kernel
theorem dX10_note_15 : decode cX10_note 15 = .ok (.bipush 96, 2) := by decide +kernel
theorem dX10_note_17 : decode cX10_note 17 = .ok (.invokestatic 138, 3) := by decide +kernel
theorem dX10_note_20 : decode cX10_note 20 = .ok (.ifCond .eq 21, 3) := by decide +kernel
theorem dX10_note_23 : decode cX10_note 23 = .ok (.aload_n 0, 1) := by decide +kernel
theorem dX10_note_24 : decode cX10_note 24 = .ok (.iload_n 1, 1) := by decide +kernel
theorem dX10_note_25 : decode cX10_note 25 = .ok (.iload_n 2, 1) := by decide +kernel
theorem dX10_note_26 : decode cX10_note 26 = .ok (.iload_n 3, 1) := by decide +kernel
theorem dX10_note_27 : decode cX10_note 27 = .ok (.ifCond .eq 7, 3) := by decide +kernel
theorem dX10_note_30 : decode cX10_note 30 = .ok (.iconst 1, 1) := by decide +kernel
theorem dX10_note_31 : decode cX10_note 31 = .ok (.goto 4, 3) := by decide +kernel
theorem dX10_note_34 : decode cX10_note 34 = .ok (.iconst 0, 1) := by decide +kernel
theorem dX10_note_35 : decode cX10_note 35 = .ok (.invokevirtual 372, 3) := by decide +kernel
theorem dX10_note_38 : decode cX10_note 38 = .ok (.goto 4, 3) := by decide +kernel
theorem dX10_note_41 : decode cX10_note 41 = .ok (.iconst (-1), 1) := by decide +kernel
theorem dX10_note_42 : decode cX10_note 42 = .ok (.ireturn, 1) := by decide +kernel
set_option maxRecDepth 20000 in
theorem ggX10_strike_X10_notes1 : GoodIn wsX10_strike wsX10_notes1 := goodIn_r _ [7, 2, 8, 9, 10, 11, 12, 13, 14, 15, 16, 17, 18, 19, 20, 21, 22, 23, 24, 25, 26, 27, 28, 29, 30, 31, 32, 33, 34, 35, 36, 37, 38, 39, 40, 41, 42, 43, 44, 45] (by decide +kernel) (by decide +kernel)
set_option maxRecDepth 20000 in
theorem gX10_strike_X10_notes1 : GoodIn wsX10_strike (wsV RX10 372 RX10 yX10_notes1 wsX10_notes1) := goodIn_app (goodIn_of _ (by decide +kernel)) ggX10_strike_X10_notes1
theorem dX10_strike_0 : decode cX10_strike 0 = .ok (.aload_n 0, 1) := by decide +kernel
theorem dX10_strike_1 : decode cX10_strike 1 = .ok (.iconst 0, 1) := by decide +kernel
theorem dX10_strike_2 : decode cX10_strike 2 = .ok (.putfield 70, 3) := by decide +kernel
theorem dX10_strike_5 : decode cX10_strike 5 = .ok (.iload_n 1, 1) := by decide +kernel
theorem dX10_strike_6 : decode cX10_strike 6 = .ok (.ifCond .lt 11, 3) := by decide +kernel
theorem dX10_strike_9 : decode cX10_strike 9 = .ok (.iload_n 1, 1) := by decide +kernel
theorem dX10_strike_10 : decode cX10_strike 10 = .ok (.aload_n 0, 1) := by decide +kernel
theorem dX10_strike_11 : decode cX10_strike 11 = .ok (.getfield 132, 3) := by decide +kernel
theorem dX10_strike_14 : decode cX10_strike 14 = .ok (.if_icmp .lt 7, 3) := by decide +kernel
theorem dX10_strike_17 : decode cX10_strike 17 = .ok (.iconst (-1), 1) := by decide +kernel
theorem dX10_strike_18 : decode cX10_strike 18 = .ok (.goto 10, 3) := by decide +kernel
theorem dX10_strike_21 : decode cX10_strike 21 = .ok (.aload_n 0, 1) := by decide +kernel
theorem dX10_strike_22 : decode cX10_strike 22 = .ok (.iconst (-1), 1) := by decide +kernel
theorem dX10_strike_23 : decode cX10_strike 23 = .ok (.iload_n 1, 1) := by decide +kernel
theorem dX10_strike_24 : decode cX10_strike 24 = .ok (.iconst 0, 1) := by decide +kernel
theorem dX10_strike_25 : decode cX10_strike 25 = .ok (.invokevirtual 372, 3) := by decide +kernel
theorem dX10_strike_28 : decode cX10_strike 28 = .ok (.ireturn, 1) := by decide +kernel
set_option maxRecDepth 20000 in
theorem ggX10_known_X10_isIn : GoodIn wsX10_known wsX10_isIn := goodIn_r _ [7] (by decide +kernel) (by decide +kernel)
set_option maxRecDepth 20000 in
theorem gX10_known_X10_isIn : GoodIn wsX10_known (va_wsS RX10 138 yX10_isIn wsX10_isIn) := goodIn_app (goodIn_of _ (by decide +kernel)) ggX10_known_X10_isIn
theorem dX10_known_0 : decode cX10_known 0 = .ok (.aload_n 0, 1) := by decide +kernel
theorem dX10_known_1 : decode cX10_known 1 = .ok (.iconst 0, 1) := by decide +kernel
theorem dX10_known_2 : decode cX10_known 2 = .ok (.putfield 70, 3) := by decide +kernel
theorem dX10_known_5 : decode cX10_known 5 = .ok (.iload_n 1, 1) := by decide +kernel
theorem dX10_known_6 : decode cX10_known 6 = .ok (.iconst (-1), 1) := by decide +kernel
theorem dX10_known_7 : decode cX10_known 7 = .ok (.aload_n 0, 1) := by decide +kernel
theorem dX10_known_8 : decode cX10_known 8 = .ok (.getfield 132, 3) := by decide +kernel
theorem dX10_known_11 : decode cX10_known 11 = .ok (.invokestatic 138, 3) := by decide +kernel
theorem dX10_known_14 : decode cX10_known 14 = .ok (.ifCond .ne 5, 3) := by decide +kernel
theorem dX10_known_17 : decode cX10_known 17 = .ok (.iconst 0, 1) := by decide +kernel
theorem dX10_known_18 : decode cX10_known 18 = .ok (.ireturn, 1) := by decide +kernel
theorem dX10_known_19 : decode cX10_known 19 = .ok (.aload_n 0, 1) := by decide +kernel
theorem dX10_known_20 : decode cX10_known 20 = .ok (.iload_n 1, 1) := by decide +kernel
theorem dX10_known_21 : decode cX10_known 21 = .ok (.putfield 52, 3) := by decide +kernel
theorem dX10_known_24 : decode cX10_known 24 = .ok (.iconst 1, 1) := by decide +kernel
theorem dX10_known_25 : decode cX10_known 25 = .ok (.ireturn, 1) := by decide +kernel
theorem dX10_knownBy_0 : decode cX10_knownBy 0 = .ok (.aload_n 0, 1) := by decide +kernel
theorem dX10_knownBy_1 : decode cX10_knownBy 1 = .ok (.getfield 52, 3) := by decide +kernel
theorem dX10_knownBy_4 : decode cX10_knownBy 4 = .ok (.ifCond .ge 10, 3) := by decide +kernel
theorem dX10_knownBy_7 : decode cX10_knownBy 7 = .ok (.aload_n 0, 1) := by decide +kernel
theorem dX10_knownBy_8 : decode cX10_knownBy 8 = .ok (.getfield 132, 3) := by decide +kernel
theorem dX10_knownBy_11 : decode cX10_knownBy 11 = .ok (.goto 7, 3) := by decide +kernel
theorem dX10_knownBy_14 : decode cX10_knownBy 14 = .ok (.aload_n 0, 1) := by decide +kernel
theorem dX10_knownBy_15 : decode cX10_knownBy 15 = .ok (.getfield 52, 3) := by decide +kernel
theorem dX10_knownBy_18 : decode cX10_knownBy 18 = .ok (.ireturn, 1) := by decide +kernel
set_option maxRecDepth 20000 in
theorem ggX10_layCounts_X10_knownBy : GoodIn wsX10_layCounts wsX10_knownBy := goodIn_r _ [7, 8, 9, 10, 11, 12, 13, 14, 15, 16, 17, 18, 19, 20, 21, 22, 23, 24, 25, 26, 27, 28, 29, 30, 31, 32, 33, 34, 35, 36, 37, 38, 39, 40, 41, 42, 43, 44, 45, 46] (by decide +kernel) (by decide +kernel)
set_option maxRecDepth 20000 in
theorem gX10_layCounts_X10_knownBy : GoodIn wsX10_layCounts (wsV RX10 375 RX10 yX10_knownBy wsX10_knownBy) := goodIn_app (goodIn_of _ (by decide +kernel)) ggX10_layCounts_X10_knownBy
theorem dX10_layCounts_0 : decode cX10_layCounts 0 = .ok (.iconst 0, 1) := by decide +kernel
theorem dX10_layCounts_1 : decode cX10_layCounts 1 = .ok (.istore_n 1, 1) := by decide +kernel
theorem dX10_layCounts_2 : decode cX10_layCounts 2 = .ok (.iload_n 1, 1) := by decide +kernel
theorem dX10_layCounts_3 : decode cX10_layCounts 3 = .ok (.aload_n 0, 1) := by decide +kernel
theorem dX10_layCounts_4 : decode cX10_layCounts 4 = .ok (.invokevirtual 375, 3) := by decide +kernel
theorem dX10_layCounts_7 : decode cX10_layCounts 7 = .ok (.if_icmp .ge 16, 3) := by decide +kernel
theorem dX10_layCounts_10 : decode cX10_layCounts 10 = .ok (.aload_n 0, 1) := by decide +kernel
theorem dX10_layCounts_11 : decode cX10_layCounts 11 = .ok (.getfield 58, 3) := by decide +kernel
theorem dX10_layCounts_14 : decode cX10_layCounts 14 = .ok (.iload_n 1, 1) := by decide +kernel
theorem dX10_layCounts_15 : decode cX10_layCounts 15 = .ok (.iconst 1, 1) := by decide +kernel
theorem dX10_layCounts_16 : decode cX10_layCounts 16 = .ok (.bastore, 1) := by decide +kernel
theorem dX10_layCounts_17 : decode cX10_layCounts 17 = .ok (.iinc 1 1, 3) := by decide +kernel
theorem dX10_layCounts_20 : decode cX10_layCounts 20 = .ok (.goto (-18), 3) := by decide +kernel
theorem dX10_layCounts_23 : decode cX10_layCounts 23 = .ok (.aload_n 0, 1) := by decide +kernel
theorem dX10_layCounts_24 : decode cX10_layCounts 24 = .ok (.invokevirtual 375, 3) := by decide +kernel
theorem dX10_layCounts_27 : decode cX10_layCounts 27 = .ok (.iconst 1, 1) := by decide +kernel
theorem dX10_layCounts_28 : decode cX10_layCounts 28 = .ok (.isub, 1) := by decide +kernel
theorem dX10_layCounts_29 : decode cX10_layCounts 29 = .ok (.istore_n 1, 1) := by decide +kernel
theorem dX10_layCounts_30 : decode cX10_layCounts 30 = .ok (.iload_n 1, 1) := by decide +kernel
theorem dX10_layCounts_31 : decode cX10_layCounts 31 = .ok (.ifCond .lt 45, 3) := by decide +kernel
theorem dX10_layCounts_34 : decode cX10_layCounts 34 = .ok (.aload_n 0, 1) := by decide +kernel
theorem dX10_layCounts_35 : decode cX10_layCounts 35 = .ok (.getfield 58, 3) := by decide +kernel
theorem dX10_layCounts_38 : decode cX10_layCounts 38 = .ok (.iload_n 1, 1) := by decide +kernel
theorem dX10_layCounts_39 : decode cX10_layCounts 39 = .ok (.baload, 1) := by decide +kernel
theorem dX10_layCounts_40 : decode cX10_layCounts 40 = .ok (.ifCond .eq 30, 3) := by decide +kernel
theorem dX10_layCounts_43 : decode cX10_layCounts 43 = .ok (.aload_n 0, 1) := by decide +kernel
theorem dX10_layCounts_44 : decode cX10_layCounts 44 = .ok (.getfield 55, 3) := by decide +kernel
theorem dX10_layCounts_47 : decode cX10_layCounts 47 = .ok (.iconst 3, 1) := by decide +kernel
theorem dX10_layCounts_48 : decode cX10_layCounts 48 = .ok (.iload_n 1, 1) := by decide +kernel
theorem dX10_layCounts_49 : decode cX10_layCounts 49 = .ok (.imul, 1) := by decide +kernel
theorem dX10_layCounts_50 : decode cX10_layCounts 50 = .ok (.iaload, 1) := by decide +kernel
theorem dX10_layCounts_51 : decode cX10_layCounts 51 = .ok (.ifCond .ge 19, 3) := by decide +kernel
theorem dX10_layCounts_54 : decode cX10_layCounts 54 = .ok (.aload_n 0, 1) := by decide +kernel
theorem dX10_layCounts_55 : decode cX10_layCounts 55 = .ok (.getfield 58, 3) := by decide +kernel
theorem dX10_layCounts_58 : decode cX10_layCounts 58 = .ok (.aload_n 0, 1) := by decide +kernel
theorem dX10_layCounts_59 : decode cX10_layCounts 59 = .ok (.getfield 55, 3) := by decide +kernel
theorem dX10_layCounts_62 : decode cX10_layCounts 62 = .ok (.iconst 3, 1) := by decide +kernel
theorem dX10_layCounts_63 : decode cX10_layCounts 63 = .ok (.iload_n 1, 1) := by decide +kernel
theorem dX10_layCounts_64 : decode cX10_layCounts 64 = .ok (.imul, 1) := by decide +kernel
theorem dX10_layCounts_65 : decode cX10_layCounts 65 = .ok (.iconst 1, 1) := by decide +kernel
theorem dX10_layCounts_66 : decode cX10_layCounts 66 = .ok (.iadd, 1) := by decide +kernel
theorem dX10_layCounts_67 : decode cX10_layCounts 67 = .ok (.iaload, 1) := by decide +kernel
theorem dX10_layCounts_68 : decode cX10_layCounts 68 = .ok (.iconst 0, 1) := by decide +kernel
theorem dX10_layCounts_69 : decode cX10_layCounts 69 = .ok (.bastore, 1) := by decide +kernel
theorem dX10_layCounts_70 : decode cX10_layCounts 70 = .ok (.iinc 1 (-1), 3) := by decide +kernel
theorem dX10_layCounts_73 : decode cX10_layCounts 73 = .ok (.goto (-43), 3) := by decide +kernel
theorem dX10_layCounts_76 : decode cX10_layCounts 76 = .ok (.return_, 1) := by decide +kernel
set_option maxRecDepth 20000 in
theorem ggX10_isSoBy_X10_knownBy : GoodIn wsX10_isSoBy wsX10_knownBy := goodIn_r _ [7, 8, 9, 34, 35, 36, 37, 38, 39, 40, 41, 42, 43, 44, 45, 46, 47, 48, 49, 50, 51, 52, 53, 54, 55, 56, 57, 58, 59, 60, 61, 62, 63, 64, 65, 66, 67, 68, 69, 70] (by decide +kernel) (by decide +kernel)
set_option maxRecDepth 20000 in
theorem gX10_isSoBy_X10_knownBy : GoodIn wsX10_isSoBy (wsV RX10 375 RX10 yX10_knownBy wsX10_knownBy) := goodIn_app (goodIn_of _ (by decide +kernel)) ggX10_isSoBy_X10_knownBy
set_option maxRecDepth 20000 in
theorem ggX10_isSoBy_X10_binWith : GoodIn wsX10_isSoBy wsX10_binWith := goodIn_r _ [13, 14, 15, 16, 6, 17, 18, 19, 20, 21, 22, 23, 24, 25, 26, 27, 28, 29, 30, 31, 32, 33, 34, 35, 36, 37, 38, 39, 40, 41, 42, 43, 44, 45, 46, 47, 48, 49, 50, 51, 52, 53, 54, 55, 56, 57, 58, 59, 60, 61, 62, 63, 64, 65, 66, 67, 68, 69, 70] (by decide +kernel) (by decide +kernel)
set_option maxRecDepth 20000 in
theorem gX10_isSoBy_X10_binWith : GoodIn wsX10_isSoBy (wsV RX10 368 RX10 yX10_binWith wsX10_binWith) := goodIn_app (goodIn_of _ (by decide +kernel)) ggX10_isSoBy_X10_binWith
theorem dX10_isSoBy_0 : decode cX10_isSoBy 0 = .ok (.iconst 0, 1) := by decide +kernel
theorem dX10_isSoBy_1 : decode cX10_isSoBy 1 = .ok (.istore_n 3, 1) := by decide +kernel
theorem dX10_isSoBy_2 : decode cX10_isSoBy 2 = .ok (.iload_n 3, 1) := by decide +kernel
theorem dX10_isSoBy_3 : decode cX10_isSoBy 3 = .ok (.aload_n 0, 1) := by decide +kernel
theorem dX10_isSoBy_4 : decode cX10_isSoBy 4 = .ok (.invokevirtual 375, 3) := by decide +kernel
theorem dX10_isSoBy_7 : decode cX10_isSoBy 7 = .ok (.if_icmp .ge 93, 3) := by decide +kernel
theorem dX10_isSoBy_10 : decode cX10_isSoBy 10 = .ok (.iconst 3, 1) := by decide +kernel
theorem dX10_isSoBy_11 : decode cX10_isSoBy 11 = .ok (.iload_n 3, 1) := by decide +kernel
theorem dX10_isSoBy_12 : decode cX10_isSoBy 12 = .ok (.imul, 1) := by decide +kernel
theorem dX10_isSoBy_13 : decode cX10_isSoBy 13 = .ok (.istore 4, 2) := by decide +kernel
theorem dX10_isSoBy_15 : decode cX10_isSoBy 15 = .ok (.aload_n 0, 1) := by decide +kernel
theorem dX10_isSoBy_16 : decode cX10_isSoBy 16 = .ok (.getfield 58, 3) := by decide +kernel
theorem dX10_isSoBy_19 : decode cX10_isSoBy 19 = .ok (.iload_n 3, 1) := by decide +kernel
theorem dX10_isSoBy_20 : decode cX10_isSoBy 20 = .ok (.baload, 1) := by decide +kernel
theorem dX10_isSoBy_21 : decode cX10_isSoBy 21 = .ok (.ifCond .eq 73, 3) := by decide +kernel
theorem dX10_isSoBy_24 : decode cX10_isSoBy 24 = .ok (.aload_n 0, 1) := by decide +kernel
theorem dX10_isSoBy_25 : decode cX10_isSoBy 25 = .ok (.getfield 55, 3) := by decide +kernel
theorem dX10_isSoBy_28 : decode cX10_isSoBy 28 = .ok (.iload 4, 2) := by decide +kernel
theorem dX10_isSoBy_30 : decode cX10_isSoBy 30 = .ok (.iaload, 1) := by decide +kernel
theorem dX10_isSoBy_31 : decode cX10_isSoBy 31 = .ok (.ifCond .ge 6, 3) := by decide +kernel
theorem dX10_isSoBy_34 : decode cX10_isSoBy 34 = .ok (.goto 60, 3) := by decide +kernel
theorem dX10_isSoBy_37 : decode cX10_isSoBy 37 = .ok (.aload_n 0, 1) := by decide +kernel
theorem dX10_isSoBy_38 : decode cX10_isSoBy 38 = .ok (.aload_n 0, 1) := by decide +kernel
theorem dX10_isSoBy_39 : decode cX10_isSoBy 39 = .ok (.getfield 55, 3) := by decide +kernel
theorem dX10_isSoBy_42 : decode cX10_isSoBy 42 = .ok (.iload 4, 2) := by decide +kernel
theorem dX10_isSoBy_44 : decode cX10_isSoBy 44 = .ok (.iaload, 1) := by decide +kernel
theorem dX10_isSoBy_45 : decode cX10_isSoBy 45 = .ok (.iload_n 1, 1) := by decide +kernel
theorem dX10_isSoBy_46 : decode cX10_isSoBy 46 = .ok (.iload_n 2, 1) := by decide +kernel
theorem dX10_isSoBy_47 : decode cX10_isSoBy 47 = .ok (.invokevirtual 368, 3) := by decide +kernel
theorem dX10_isSoBy_50 : decode cX10_isSoBy 50 = .ok (.aload_n 0, 1) := by decide +kernel
theorem dX10_isSoBy_51 : decode cX10_isSoBy 51 = .ok (.getfield 55, 3) := by decide +kernel
theorem dX10_isSoBy_54 : decode cX10_isSoBy 54 = .ok (.iload 4, 2) := by decide +kernel
theorem dX10_isSoBy_56 : decode cX10_isSoBy 56 = .ok (.iconst 1, 1) := by decide +kernel
theorem dX10_isSoBy_57 : decode cX10_isSoBy 57 = .ok (.iadd, 1) := by decide +kernel
theorem dX10_isSoBy_58 : decode cX10_isSoBy 58 = .ok (.iaload, 1) := by decide +kernel
theorem dX10_isSoBy_59 : decode cX10_isSoBy 59 = .ok (.if_icmp .lt 7, 3) := by decide +kernel
theorem dX10_isSoBy_62 : decode cX10_isSoBy 62 = .ok (.iconst 1, 1) := by decide +kernel
theorem dX10_isSoBy_63 : decode cX10_isSoBy 63 = .ok (.goto 4, 3) := by decide +kernel
theorem dX10_isSoBy_66 : decode cX10_isSoBy 66 = .ok (.iconst 0, 1) := by decide +kernel
theorem dX10_isSoBy_67 : decode cX10_isSoBy 67 = .ok (.istore 5, 2) := by decide +kernel
theorem dX10_isSoBy_69 : decode cX10_isSoBy 69 = .ok (.iload 5, 2) := by decide +kernel
theorem dX10_isSoBy_71 : decode cX10_isSoBy 71 = .ok (.aload_n 0, 1) := by decide +kernel
theorem dX10_isSoBy_72 : decode cX10_isSoBy 72 = .ok (.getfield 55, 3) := by decide +kernel
theorem dX10_isSoBy_75 : decode cX10_isSoBy 75 = .ok (.iload 4, 2) := by decide +kernel
theorem dX10_isSoBy_77 : decode cX10_isSoBy 77 = .ok (.iconst 2, 1) := by decide +kernel
theorem dX10_isSoBy_78 : decode cX10_isSoBy 78 = .ok (.iadd, 1) := by decide +kernel
theorem dX10_isSoBy_79 : decode cX10_isSoBy 79 = .ok (.iaload, 1) := by decide +kernel
theorem dX10_isSoBy_80 : decode cX10_isSoBy 80 = .ok (.iconst 1, 1) := by decide +kernel
theorem dX10_isSoBy_81 : decode cX10_isSoBy 81 = .ok (.if_icmp .ne 7, 3) := by decide +kernel
theorem dX10_isSoBy_84 : decode cX10_isSoBy 84 = .ok (.iconst 1, 1) := by decide +kernel
theorem dX10_isSoBy_85 : decode cX10_isSoBy 85 = .ok (.goto 4, 3) := by decide +kernel
theorem dX10_isSoBy_88 : decode cX10_isSoBy 88 = .ok (.iconst 0, 1) := by decide +kernel
theorem dX10_isSoBy_89 : decode cX10_isSoBy 89 = .ok (.if_icmp .eq 5, 3) := by decide +kernel
theorem dX10_isSoBy_92 : decode cX10_isSoBy 92 = .ok (.iconst 0, 1) := by decide +kernel
theorem dX10_isSoBy_93 : decode cX10_isSoBy 93 = .ok (.ireturn, 1) := by decide +kernel
theorem dX10_isSoBy_94 : decode cX10_isSoBy 94 = .ok (.iinc 3 1, 3) := by decide +kernel
theorem dX10_isSoBy_97 : decode cX10_isSoBy 97 = .ok (.goto (-95), 3) := by decide +kernel
theorem dX10_isSoBy_100 : decode cX10_isSoBy 100 = .ok (.iconst 1, 1) := by decide +kernel
theorem dX10_isSoBy_101 : decode cX10_isSoBy 101 = .ok (.ireturn, 1) := by decide +kernel
set_option maxRecDepth 20000 in
theorem ggX10_valuesOf_X10_layCounts : GoodIn wsX10_valuesOf wsX10_layCounts := goodIn_r _ [5, 6, 7, 8, 9, 10, 4, 11, 12, 13, 42, 43, 44, 45, 46, 47, 48, 49, 50, 51, 52, 53, 54, 55, 56, 57, 58, 59, 60, 61, 62, 63, 64, 65, 66, 67, 68, 69, 70, 71, 72, 73, 74, 75, 76, 77, 78] (by decide +kernel) (by decide +kernel)
set_option maxRecDepth 20000 in
theorem gX10_valuesOf_X10_layCounts : GoodIn wsX10_valuesOf (wsV RX10 378 RX10 yX10_layCounts wsX10_layCounts) := goodIn_app (goodIn_of _ (by decide +kernel)) ggX10_valuesOf_X10_layCounts
set_option maxRecDepth 20000 in
theorem ggX10_valuesOf_X10_isSoBy : GoodIn wsX10_valuesOf wsX10_isSoBy := goodIn_r _ [17, 6, 7, 8, 9, 10, 4, 11, 12, 13, 18, 19, 20, 21, 22, 23, 24, 25, 26, 27, 28, 29, 30, 31, 32, 33, 34, 35, 36, 37, 38, 39, 40, 41, 42, 43, 44, 45, 46, 47, 48, 49, 50, 51, 52, 53, 54, 55, 56, 57, 58, 59, 60, 61, 62, 63, 64, 65, 66, 67, 68, 69, 70, 71, 72, 73, 74, 75, 76, 77, 78] (by decide +kernel) (by decide +kernel)
set_option maxRecDepth 20000 in
theorem gX10_valuesOf_X10_isSoBy : GoodIn wsX10_valuesOf (wsV RX10 381 RX10 yX10_isSoBy wsX10_isSoBy) := goodIn_app (goodIn_of _ (by decide +kernel)) ggX10_valuesOf_X10_isSoBy
theorem dX10_valuesOf_0 : decode cX10_valuesOf 0 = .ok (.aload_n 0, 1) := by decide +kernel
theorem dX10_valuesOf_1 : decode cX10_valuesOf 1 = .ok (.invokevirtual 378, 3) := by decide +kernel
theorem dX10_valuesOf_4 : decode cX10_valuesOf 4 = .ok (.iconst 0, 1) := by decide +kernel
theorem dX10_valuesOf_5 : decode cX10_valuesOf 5 = .ok (.istore_n 2, 1) := by decide +kernel
theorem dX10_valuesOf_6 : decode cX10_valuesOf 6 = .ok (.iconst 0, 1) := by decide +kernel
theorem dX10_valuesOf_7 : decode cX10_valuesOf 7 = .ok (.istore_n 3, 1) := by decide +kernel
theorem dX10_valuesOf_8 : decode cX10_valuesOf 8 = .ok (.iload_n 3, 1) := by decide +kernel
theorem dX10_valuesOf_9 : decode cX10_valuesOf 9 = .ok (.bipush 16, 2) := by decide +kernel
theorem dX10_valuesOf_11 : decode cX10_valuesOf 11 = .ok (.if_icmp .ge 28, 3) := by decide +kernel
theorem dX10_valuesOf_14 : decode cX10_valuesOf 14 = .ok (.iload_n 2, 1) := by decide +kernel
theorem dX10_valuesOf_15 : decode cX10_valuesOf 15 = .ok (.aload_n 0, 1) := by decide +kernel
theorem dX10_valuesOf_16 : decode cX10_valuesOf 16 = .ok (.iload_n 1, 1) := by decide +kernel
theorem dX10_valuesOf_17 : decode cX10_valuesOf 17 = .ok (.iload_n 3, 1) := by decide +kernel
theorem dX10_valuesOf_18 : decode cX10_valuesOf 18 = .ok (.invokevirtual 381, 3) := by decide +kernel
theorem dX10_valuesOf_21 : decode cX10_valuesOf 21 = .ok (.ifCond .eq 9, 3) := by decide +kernel
theorem dX10_valuesOf_24 : decode cX10_valuesOf 24 = .ok (.iconst 1, 1) := by decide +kernel
theorem dX10_valuesOf_25 : decode cX10_valuesOf 25 = .ok (.iload_n 3, 1) := by decide +kernel
theorem dX10_valuesOf_26 : decode cX10_valuesOf 26 = .ok (.ishl, 1) := by decide +kernel
theorem dX10_valuesOf_27 : decode cX10_valuesOf 27 = .ok (.goto 4, 3) := by decide +kernel
theorem dX10_valuesOf_30 : decode cX10_valuesOf 30 = .ok (.iconst 0, 1) := by decide +kernel
theorem dX10_valuesOf_31 : decode cX10_valuesOf 31 = .ok (.ior, 1) := by decide +kernel
theorem dX10_valuesOf_32 : decode cX10_valuesOf 32 = .ok (.istore_n 2, 1) := by decide +kernel
theorem dX10_valuesOf_33 : decode cX10_valuesOf 33 = .ok (.iinc 3 1, 3) := by decide +kernel
theorem dX10_valuesOf_36 : decode cX10_valuesOf 36 = .ok (.goto (-28), 3) := by decide +kernel
theorem dX10_valuesOf_39 : decode cX10_valuesOf 39 = .ok (.iload_n 2, 1) := by decide +kernel
theorem dX10_valuesOf_40 : decode cX10_valuesOf 40 = .ok (.ireturn, 1) := by decide +kernel
set_option maxRecDepth 20000 in
theorem ggX10_values_X10_isPlace : GoodIn wsX10_values wsX10_isPlace := goodIn_r _ [6, 7, 8, 9, 5, 10, 11, 51, 52, 53, 54, 55, 56, 57, 58, 59, 60, 61, 62, 63, 64, 65, 66, 67, 68, 69, 70, 71, 72, 73, 74, 75, 76, 77, 78, 79, 80, 81, 82, 83, 84, 85, 86, 87] (by decide +kernel) (by decide +kernel)
set_option maxRecDepth 20000 in
theorem gX10_values_X10_isPlace : GoodIn wsX10_values (wsV RX10 203 RX10 yX10_isPlace wsX10_isPlace) := goodIn_app (goodIn_of _ (by decide +kernel)) ggX10_values_X10_isPlace
set_option maxRecDepth 20000 in
theorem ggX10_values_X10_valuesOf : GoodIn wsX10_values wsX10_valuesOf := goodIn_r _ [15, 16, 17, 18, 5, 19, 20, 21, 22, 23, 24, 25, 26, 27, 28, 29, 30, 31, 32, 33, 34, 35, 7, 8, 9, 10, 11, 36, 37, 38, 39, 40, 41, 42, 43, 44, 45, 46, 47, 48, 49, 50, 51, 52, 53, 54, 55, 56, 57, 58, 59, 60, 61, 62, 63, 64, 65, 66, 67, 68, 69, 70, 71, 72, 73, 74, 75, 76, 77, 78, 79, 80, 81, 82, 83, 84, 85, 86, 87] (by decide +kernel) (by decide +kernel)
set_option maxRecDepth 20000 in
theorem gX10_values_X10_valuesOf : GoodIn wsX10_values (wsV RX10 384 RX10 yX10_valuesOf wsX10_valuesOf) := goodIn_app (goodIn_of _ (by decide +kernel)) ggX10_values_X10_valuesOf
theorem dX10_values_0 : decode cX10_values 0 = .ok (.aload_n 0, 1) := by decide +kernel
theorem dX10_values_1 : decode cX10_values 1 = .ok (.iconst 0, 1) := by decide +kernel
theorem dX10_values_2 : decode cX10_values 2 = .ok (.putfield 70, 3) := by decide +kernel
theorem dX10_values_5 : decode cX10_values 5 = .ok (.aload_n 0, 1) := by decide +kernel
theorem dX10_values_6 : decode cX10_values 6 = .ok (.iload_n 1, 1) := by decide +kernel
theorem dX10_values_7 : decode cX10_values 7 = .ok (.invokevirtual 203, 3) := by decide +kernel
theorem dX10_values_10 : decode cX10_values 10 = .ok (.ifCond .eq 11, 3) := by decide +kernel
theorem dX10_values_13 : decode cX10_values 13 = .ok (.aload_n 0, 1) := by decide +kernel
theorem dX10_values_14 : decode cX10_values 14 = .ok (.iload_n 1, 1) := by decide +kernel
theorem dX10_values_15 : decode cX10_values 15 = .ok (.invokevirtual 384, 3) := by decide +kernel
theorem dX10_values_18 : decode cX10_values 18 = .ok (.goto 4, 3) := by decide +kernel
theorem dX10_values_21 : decode cX10_values 21 = .ok (.iconst (-1), 1) := by decide +kernel
theorem dX10_values_22 : decode cX10_values 22 = .ok (.ireturn, 1) := by decide +kernel
set_option maxRecDepth 20000 in
theorem ggX10_manyBy_X10_isOf : GoodIn wsX10_manyBy wsX10_isOf := goodIn_r _ [5] (by decide +kernel) (by decide +kernel)
set_option maxRecDepth 20000 in
theorem gX10_manyBy_X10_isOf : GoodIn wsX10_manyBy (va_wsS RX10 341 yX10_isOf wsX10_isOf) := goodIn_app (goodIn_of _ (by decide +kernel)) ggX10_manyBy_X10_isOf
theorem dX10_manyBy_0 : decode cX10_manyBy 0 = .ok (.iconst 0, 1) := by decide +kernel
theorem dX10_manyBy_1 : decode cX10_manyBy 1 = .ok (.istore_n 3, 1) := by decide +kernel
theorem dX10_manyBy_2 : decode cX10_manyBy 2 = .ok (.iconst 0, 1) := by decide +kernel
theorem dX10_manyBy_3 : decode cX10_manyBy 3 = .ok (.istore 4, 2) := by decide +kernel
theorem dX10_manyBy_5 : decode cX10_manyBy 5 = .ok (.iload 4, 2) := by decide +kernel
theorem dX10_manyBy_7 : decode cX10_manyBy 7 = .ok (.bipush 16, 2) := by decide +kernel
theorem dX10_manyBy_9 : decode cX10_manyBy 9 = .ok (.if_icmp .ge 37, 3) := by decide +kernel
theorem dX10_manyBy_12 : decode cX10_manyBy 12 = .ok (.iload_n 3, 1) := by decide +kernel
theorem dX10_manyBy_13 : decode cX10_manyBy 13 = .ok (.iload_n 1, 1) := by decide +kernel
theorem dX10_manyBy_14 : decode cX10_manyBy 14 = .ok (.iload 4, 2) := by decide +kernel
theorem dX10_manyBy_16 : decode cX10_manyBy 16 = .ok (.invokestatic 341, 3) := by decide +kernel
theorem dX10_manyBy_19 : decode cX10_manyBy 19 = .ok (.ifCond .eq 18, 3) := by decide +kernel
theorem dX10_manyBy_22 : decode cX10_manyBy 22 = .ok (.aload_n 0, 1) := by decide +kernel
theorem dX10_manyBy_23 : decode cX10_manyBy 23 = .ok (.getfield 61, 3) := by decide +kernel
theorem dX10_manyBy_26 : decode cX10_manyBy 26 = .ok (.iload 4, 2) := by decide +kernel
theorem dX10_manyBy_28 : decode cX10_manyBy 28 = .ok (.iaload, 1) := by decide +kernel
theorem dX10_manyBy_29 : decode cX10_manyBy 29 = .ok (.iload_n 2, 1) := by decide +kernel
theorem dX10_manyBy_30 : decode cX10_manyBy 30 = .ok (.if_icmp .lt 7, 3) := by decide +kernel
theorem dX10_manyBy_33 : decode cX10_manyBy 33 = .ok (.iconst 1, 1) := by decide +kernel
theorem dX10_manyBy_34 : decode cX10_manyBy 34 = .ok (.goto 4, 3) := by decide +kernel
theorem dX10_manyBy_37 : decode cX10_manyBy 37 = .ok (.iconst 0, 1) := by decide +kernel
theorem dX10_manyBy_38 : decode cX10_manyBy 38 = .ok (.iadd, 1) := by decide +kernel
theorem dX10_manyBy_39 : decode cX10_manyBy 39 = .ok (.istore_n 3, 1) := by decide +kernel
theorem dX10_manyBy_40 : decode cX10_manyBy 40 = .ok (.iinc 4 1, 3) := by decide +kernel
theorem dX10_manyBy_43 : decode cX10_manyBy 43 = .ok (.goto (-38), 3) := by decide +kernel
theorem dX10_manyBy_46 : decode cX10_manyBy 46 = .ok (.iload_n 3, 1) := by decide +kernel
theorem dX10_manyBy_47 : decode cX10_manyBy 47 = .ok (.ireturn, 1) := by decide +kernel
set_option maxRecDepth 20000 in
theorem ggX10_ask_X10_isPlace : GoodIn wsX10_ask wsX10_isPlace := goodIn_r _ [7, 8, 9, 10, 6, 11, 12, 62, 63, 64, 65, 66, 67, 68, 69, 70, 71, 72, 73, 74, 75, 76, 77, 78, 79, 80, 81, 82, 83, 84, 85, 86, 87, 88, 89, 90, 91, 92, 93, 94, 95, 96, 97, 98] (by decide +kernel) (by decide +kernel)
set_option maxRecDepth 20000 in
theorem gX10_ask_X10_isPlace : GoodIn wsX10_ask (wsV RX10 203 RX10 yX10_isPlace wsX10_isPlace) := goodIn_app (goodIn_of _ (by decide +kernel)) ggX10_ask_X10_isPlace
set_option maxRecDepth 20000 in
theorem ggX10_ask_X10_isIn : GoodIn wsX10_ask wsX10_isIn := goodIn_r _ [15] (by decide +kernel) (by decide +kernel)
set_option maxRecDepth 20000 in
theorem gX10_ask_X10_isIn : GoodIn wsX10_ask (va_wsS RX10 138 yX10_isIn wsX10_isIn) := goodIn_app (goodIn_of _ (by decide +kernel)) ggX10_ask_X10_isIn
set_option maxRecDepth 20000 in
theorem ggX10_ask_X10_valuesOf : GoodIn wsX10_ask wsX10_valuesOf := goodIn_r _ [19, 20, 21, 22, 6, 23, 24, 25, 26, 27, 28, 29, 30, 31, 32, 33, 34, 35, 36, 37, 38, 39, 8, 9, 10, 11, 12, 40, 41, 42, 43, 44, 45, 46, 47, 48, 49, 50, 51, 52, 53, 54, 62, 63, 64, 65, 66, 67, 68, 69, 70, 71, 72, 73, 74, 75, 76, 77, 78, 79, 80, 81, 82, 83, 84, 85, 86, 87, 88, 89, 90, 91, 92, 93, 94, 95, 96, 97, 98] (by decide +kernel) (by decide +kernel)
set_option maxRecDepth 20000 in
theorem gX10_ask_X10_valuesOf : GoodIn wsX10_ask (wsV RX10 384 RX10 yX10_valuesOf wsX10_valuesOf) := goodIn_app (goodIn_of _ (by decide +kernel)) ggX10_ask_X10_valuesOf
set_option maxRecDepth 20000 in
theorem ggX10_ask_X10_size : GoodIn wsX10_ask wsX10_size := goodIn_r _ [11, 12, 62, 63, 64, 65, 66, 67, 68, 69, 70, 71, 72, 73, 74, 75, 76, 77, 78, 79, 80, 81, 82, 83, 84, 85, 86, 87, 88, 89, 90, 91, 92, 93, 94, 95, 96, 97, 98] (by decide +kernel) (by decide +kernel)
set_option maxRecDepth 20000 in
theorem gX10_ask_X10_size : GoodIn wsX10_ask (wsV RX10 196 RX10 yX10_size wsX10_size) := goodIn_app (goodIn_of _ (by decide +kernel)) ggX10_ask_X10_size
set_option maxRecDepth 20000 in
theorem ggX10_ask_X10_binWith : GoodIn wsX10_ask wsX10_binWith := goodIn_r _ [39, 8, 9, 10, 6, 11, 12, 40, 41, 42, 43, 44, 45, 46, 47, 48, 49, 50, 51, 52, 53, 54, 62, 63, 64, 65, 66, 67, 68, 69, 70, 71, 72, 73, 74, 75, 76, 77, 78, 79, 80, 81, 82, 83, 84, 85, 86, 87, 88, 89, 90, 91, 92, 93, 94, 95, 96, 97, 98] (by decide +kernel) (by decide +kernel)
set_option maxRecDepth 20000 in
theorem gX10_ask_X10_binWith : GoodIn wsX10_ask (wsV RX10 368 RX10 yX10_binWith wsX10_binWith) := goodIn_app (goodIn_of _ (by decide +kernel)) ggX10_ask_X10_binWith
set_option maxRecDepth 20000 in
theorem ggX10_ask_X10_manyBy : GoodIn wsX10_ask wsX10_manyBy := goodIn_r _ [58, 2, 59, 60, 6, 61, 62, 63, 64, 65, 66, 67, 68, 69, 70, 71, 72, 73, 74, 75, 76, 77, 78, 79, 80, 81, 82, 83, 84, 85, 86, 87, 88, 89, 90, 91, 92, 93, 94, 95, 96, 97, 98] (by decide +kernel) (by decide +kernel)
set_option maxRecDepth 20000 in
theorem gX10_ask_X10_manyBy : GoodIn wsX10_ask (wsV RX10 387 RX10 yX10_manyBy wsX10_manyBy) := goodIn_app (goodIn_of _ (by decide +kernel)) ggX10_ask_X10_manyBy
theorem dX10_ask_0 : decode cX10_ask 0 = .ok (.aload_n 0, 1) := by decide +kernel
theorem dX10_ask_1 : decode cX10_ask 1 = .ok (.iconst 0, 1) := by decide +kernel
theorem dX10_ask_2 : decode cX10_ask 2 = .ok (.putfield 70, 3) := by decide +kernel
theorem dX10_ask_5 : decode cX10_ask 5 = .ok (.aload_n 0, 1) := by decide +kernel
theorem dX10_ask_6 : decode cX10_ask 6 = .ok (.iload_n 1, 1) := by decide +kernel
theorem dX10_ask_7 : decode cX10_ask 7 = .ok (.invokevirtual 203, 3) := by decide +kernel
theorem dX10_ask_10 : decode cX10_ask 10 = .ok (.ifCond .eq 12, 3) := by decide +kernel
theorem dX10_ask_13 : decode cX10_ask 13 = .ok (.iload_n 2, 1) := by decide +kernel
theorem dX10_ask_14 : decode cX10_ask 14 = .ok (.iconst 0, 1) := by decide +kernel
theorem dX10_ask_15 : decode cX10_ask 15 = .ok (.iconst 2, 1) := by decide +kernel
theorem dX10_ask_16 : decode cX10_ask 16 = .ok (.invokestatic 138, 3) := by decide +kernel
theorem dX10_ask_19 : decode cX10_ask 19 = .ok (.ifCond .ne 5, 3) := by decide +kernel
theorem dX10_ask_22 : decode cX10_ask 22 = .ok (.iconst (-1), 1) := by decide +kernel
theorem dX10_ask_23 : decode cX10_ask 23 = .ok (.ireturn, 1) := by decide +kernel
theorem dX10_ask_24 : decode cX10_ask 24 = .ok (.aload_n 0, 1) := by decide +kernel
theorem dX10_ask_25 : decode cX10_ask 25 = .ok (.iload_n 1, 1) := by decide +kernel
theorem dX10_ask_26 : decode cX10_ask 26 = .ok (.invokevirtual 384, 3) := by decide +kernel
theorem dX10_ask_29 : decode cX10_ask 29 = .ok (.istore_n 3, 1) := by decide +kernel
theorem dX10_ask_30 : decode cX10_ask 30 = .ok (.iconst 0, 1) := by decide +kernel
theorem dX10_ask_31 : decode cX10_ask 31 = .ok (.istore 4, 2) := by decide +kernel
theorem dX10_ask_33 : decode cX10_ask 33 = .ok (.iconst 1, 1) := by decide +kernel
theorem dX10_ask_34 : decode cX10_ask 34 = .ok (.istore 5, 2) := by decide +kernel
theorem dX10_ask_36 : decode cX10_ask 36 = .ok (.bipush 17, 2) := by decide +kernel
theorem dX10_ask_38 : decode cX10_ask 38 = .ok (.istore 6, 2) := by decide +kernel
theorem dX10_ask_40 : decode cX10_ask 40 = .ok (.iconst 0, 1) := by decide +kernel
theorem dX10_ask_41 : decode cX10_ask 41 = .ok (.istore 7, 2) := by decide +kernel
theorem dX10_ask_43 : decode cX10_ask 43 = .ok (.iload 7, 2) := by decide +kernel
theorem dX10_ask_45 : decode cX10_ask 45 = .ok (.aload_n 0, 1) := by decide +kernel
theorem dX10_ask_46 : decode cX10_ask 46 = .ok (.invokevirtual 196, 3) := by decide +kernel
theorem dX10_ask_49 : decode cX10_ask 49 = .ok (.if_icmp .ge 118, 3) := by decide +kernel
theorem dX10_ask_52 : decode cX10_ask 52 = .ok (.iconst 0, 1) := by decide +kernel
theorem dX10_ask_53 : decode cX10_ask 53 = .ok (.istore 8, 2) := by decide +kernel
theorem dX10_ask_55 : decode cX10_ask 55 = .ok (.iload 8, 2) := by decide +kernel
theorem dX10_ask_57 : decode cX10_ask 57 = .ok (.bipush 16, 2) := by decide +kernel
theorem dX10_ask_59 : decode cX10_ask 59 = .ok (.if_icmp .ge 25, 3) := by decide +kernel
theorem dX10_ask_62 : decode cX10_ask 62 = .ok (.aload_n 0, 1) := by decide +kernel
theorem dX10_ask_63 : decode cX10_ask 63 = .ok (.getfield 61, 3) := by decide +kernel
theorem dX10_ask_66 : decode cX10_ask 66 = .ok (.iload 8, 2) := by decide +kernel
theorem dX10_ask_68 : decode cX10_ask 68 = .ok (.aload_n 0, 1) := by decide +kernel
theorem dX10_ask_69 : decode cX10_ask 69 = .ok (.iload 7, 2) := by decide +kernel
theorem dX10_ask_71 : decode cX10_ask 71 = .ok (.iload_n 1, 1) := by decide +kernel
theorem dX10_ask_72 : decode cX10_ask 72 = .ok (.iload 8, 2) := by decide +kernel
theorem dX10_ask_74 : decode cX10_ask 74 = .ok (.invokevirtual 368, 3) := by decide +kernel
theorem dX10_ask_77 : decode cX10_ask 77 = .ok (.iastore, 1) := by decide +kernel
theorem dX10_ask_78 : decode cX10_ask 78 = .ok (.iinc 8 1, 3) := by decide +kernel
theorem dX10_ask_81 : decode cX10_ask 81 = .ok (.goto (-26), 3) := by decide +kernel
theorem dX10_ask_84 : decode cX10_ask 84 = .ok (.aload_n 0, 1) := by decide +kernel
theorem dX10_ask_85 : decode cX10_ask 85 = .ok (.iload_n 3, 1) := by decide +kernel
theorem dX10_ask_86 : decode cX10_ask 86 = .ok (.iconst 0, 1) := by decide +kernel
theorem dX10_ask_87 : decode cX10_ask 87 = .ok (.invokevirtual 387, 3) := by decide +kernel
theorem dX10_ask_90 : decode cX10_ask 90 = .ok (.istore 8, 2) := by decide +kernel
theorem dX10_ask_92 : decode cX10_ask 92 = .ok (.iconst 1, 1) := by decide +kernel
theorem dX10_ask_93 : decode cX10_ask 93 = .ok (.istore 9, 2) := by decide +kernel
theorem dX10_ask_95 : decode cX10_ask 95 = .ok (.iload 9, 2) := by decide +kernel
theorem dX10_ask_97 : decode cX10_ask 97 = .ok (.bipush 96, 2) := by decide +kernel
theorem dX10_ask_99 : decode cX10_ask 99 = .ok (.if_icmp .gt 62, 3) := by decide +kernel
theorem dX10_ask_102 : decode cX10_ask 102 = .ok (.aload_n 0, 1) := by decide +kernel
theorem dX10_ask_103 : decode cX10_ask 103 = .ok (.iload_n 3, 1) := by decide +kernel
theorem dX10_ask_104 : decode cX10_ask 104 = .ok (.iload 9, 2) := by decide +kernel
theorem dX10_ask_106 : decode cX10_ask 106 = .ok (.invokevirtual 387, 3) := by decide +kernel
theorem dX10_ask_109 : decode cX10_ask 109 = .ok (.istore 10, 2) := by decide +kernel
theorem dX10_ask_111 : decode cX10_ask 111 = .ok (.iload 10, 2) := by decide +kernel
theorem dX10_ask_113 : decode cX10_ask 113 = .ok (.iload 8, 2) := by decide +kernel
theorem dX10_ask_115 : decode cX10_ask 115 = .ok (.iload 10, 2) := by decide +kernel
theorem dX10_ask_117 : decode cX10_ask 117 = .ok (.isub, 1) := by decide +kernel
theorem dX10_ask_118 : decode cX10_ask 118 = .ok (.if_icmp .le 8, 3) := by decide +kernel
theorem dX10_ask_121 : decode cX10_ask 121 = .ok (.iload 10, 2) := by decide +kernel
theorem dX10_ask_123 : decode cX10_ask 123 = .ok (.goto 8, 3) := by decide +kernel
theorem dX10_ask_126 : decode cX10_ask 126 = .ok (.iload 8, 2) := by decide +kernel
theorem dX10_ask_128 : decode cX10_ask 128 = .ok (.iload 10, 2) := by decide +kernel
theorem dX10_ask_130 : decode cX10_ask 130 = .ok (.isub, 1) := by decide +kernel
theorem dX10_ask_131 : decode cX10_ask 131 = .ok (.istore 11, 2) := by decide +kernel
theorem dX10_ask_133 : decode cX10_ask 133 = .ok (.iload 11, 2) := by decide +kernel
theorem dX10_ask_135 : decode cX10_ask 135 = .ok (.iload 6, 2) := by decide +kernel
theorem dX10_ask_137 : decode cX10_ask 137 = .ok (.if_icmp .lt 6, 3) := by decide +kernel
theorem dX10_ask_140 : decode cX10_ask 140 = .ok (.goto 15, 3) := by decide +kernel
theorem dX10_ask_143 : decode cX10_ask 143 = .ok (.iload 7, 2) := by decide +kernel
theorem dX10_ask_145 : decode cX10_ask 145 = .ok (.istore 4, 2) := by decide +kernel
theorem dX10_ask_147 : decode cX10_ask 147 = .ok (.iload 9, 2) := by decide +kernel
theorem dX10_ask_149 : decode cX10_ask 149 = .ok (.istore 5, 2) := by decide +kernel
theorem dX10_ask_151 : decode cX10_ask 151 = .ok (.iload 11, 2) := by decide +kernel
theorem dX10_ask_153 : decode cX10_ask 153 = .ok (.istore 6, 2) := by decide +kernel
theorem dX10_ask_155 : decode cX10_ask 155 = .ok (.iinc 9 1, 3) := by decide +kernel
theorem dX10_ask_158 : decode cX10_ask 158 = .ok (.goto (-63), 3) := by decide +kernel
theorem dX10_ask_161 : decode cX10_ask 161 = .ok (.iinc 7 1, 3) := by decide +kernel
theorem dX10_ask_164 : decode cX10_ask 164 = .ok (.goto (-121), 3) := by decide +kernel
theorem dX10_ask_167 : decode cX10_ask 167 = .ok (.iload_n 2, 1) := by decide +kernel
theorem dX10_ask_168 : decode cX10_ask 168 = .ok (.ifCond .ne 8, 3) := by decide +kernel
theorem dX10_ask_171 : decode cX10_ask 171 = .ok (.iload 4, 2) := by decide +kernel
theorem dX10_ask_173 : decode cX10_ask 173 = .ok (.goto 15, 3) := by decide +kernel
theorem dX10_ask_176 : decode cX10_ask 176 = .ok (.iload_n 2, 1) := by decide +kernel
theorem dX10_ask_177 : decode cX10_ask 177 = .ok (.iconst 1, 1) := by decide +kernel
theorem dX10_ask_178 : decode cX10_ask 178 = .ok (.if_icmp .ne 8, 3) := by decide +kernel
theorem dX10_ask_181 : decode cX10_ask 181 = .ok (.iload 5, 2) := by decide +kernel
theorem dX10_ask_183 : decode cX10_ask 183 = .ok (.goto 5, 3) := by decide +kernel
theorem dX10_ask_186 : decode cX10_ask 186 = .ok (.iload 6, 2) := by decide +kernel
theorem dX10_ask_188 : decode cX10_ask 188 = .ok (.ireturn, 1) := by decide +kernel
theorem dX10_noisy_0 : decode cX10_noisy 0 = .ok (.aload_n 0, 1) := by decide +kernel
theorem dX10_noisy_1 : decode cX10_noisy 1 = .ok (.aload_n 0, 1) := by decide +kernel
theorem dX10_noisy_2 : decode cX10_noisy 2 = .ok (.getfield 390, 3) := by decide +kernel
theorem dX10_noisy_5 : decode cX10_noisy 5 = .ok (.ldc2_w 394, 3) := by decide +kernel
theorem dX10_noisy_8 : decode cX10_noisy 8 = .ok (.lmul, 1) := by decide +kernel
theorem dX10_noisy_9 : decode cX10_noisy 9 = .ok (.ldc2_w 396, 3) := by decide +kernel
theorem dX10_noisy_12 : decode cX10_noisy 12 = .ok (.ladd, 1) := by decide +kernel
theorem dX10_noisy_13 : decode cX10_noisy 13 = .ok (.ldc2_w 398, 3) := by decide +kernel
theorem dX10_noisy_16 : decode cX10_noisy 16 = .ok (.land, 1) := by decide +kernel
theorem dX10_noisy_17 : decode cX10_noisy 17 = .ok (.putfield 390, 3) := by decide +kernel
theorem dX10_noisy_20 : decode cX10_noisy 20 = .ok (.iload_n 1, 1) := by decide +kernel
theorem dX10_noisy_21 : decode cX10_noisy 21 = .ok (.aload_n 0, 1) := by decide +kernel
theorem dX10_noisy_22 : decode cX10_noisy 22 = .ok (.getfield 390, 3) := by decide +kernel
theorem dX10_noisy_25 : decode cX10_noisy 25 = .ok (.ldc2_w 400, 3) := by decide +kernel
theorem dX10_noisy_28 : decode cX10_noisy 28 = .ok (.ldiv, 1) := by decide +kernel
theorem dX10_noisy_29 : decode cX10_noisy 29 = .ok (.iconst 2, 1) := by decide +kernel
theorem dX10_noisy_30 : decode cX10_noisy 30 = .ok (.iload_n 2, 1) := by decide +kernel
theorem dX10_noisy_31 : decode cX10_noisy 31 = .ok (.imul, 1) := by decide +kernel
theorem dX10_noisy_32 : decode cX10_noisy 32 = .ok (.iconst 1, 1) := by decide +kernel
theorem dX10_noisy_33 : decode cX10_noisy 33 = .ok (.iadd, 1) := by decide +kernel
theorem dX10_noisy_34 : decode cX10_noisy 34 = .ok (.i2l, 1) := by decide +kernel
theorem dX10_noisy_35 : decode cX10_noisy 35 = .ok (.lrem, 1) := by decide +kernel
theorem dX10_noisy_36 : decode cX10_noisy 36 = .ok (.l2i, 1) := by decide +kernel
theorem dX10_noisy_37 : decode cX10_noisy 37 = .ok (.iadd, 1) := by decide +kernel
theorem dX10_noisy_38 : decode cX10_noisy 38 = .ok (.iload_n 2, 1) := by decide +kernel
theorem dX10_noisy_39 : decode cX10_noisy 39 = .ok (.isub, 1) := by decide +kernel
theorem dX10_noisy_40 : decode cX10_noisy 40 = .ok (.istore_n 3, 1) := by decide +kernel
theorem dX10_noisy_41 : decode cX10_noisy 41 = .ok (.iload_n 3, 1) := by decide +kernel
theorem dX10_noisy_42 : decode cX10_noisy 42 = .ok (.aload_n 0, 1) := by decide +kernel
theorem dX10_noisy_43 : decode cX10_noisy 43 = .ok (.getfield 175, 3) := by decide +kernel
theorem dX10_noisy_46 : decode cX10_noisy 46 = .ok (.if_icmp .le 10, 3) := by decide +kernel
theorem dX10_noisy_49 : decode cX10_noisy 49 = .ok (.aload_n 0, 1) := by decide +kernel
theorem dX10_noisy_50 : decode cX10_noisy 50 = .ok (.getfield 175, 3) := by decide +kernel
theorem dX10_noisy_53 : decode cX10_noisy 53 = .ok (.goto 21, 3) := by decide +kernel
theorem dX10_noisy_56 : decode cX10_noisy 56 = .ok (.iload_n 3, 1) := by decide +kernel
theorem dX10_noisy_57 : decode cX10_noisy 57 = .ok (.aload_n 0, 1) := by decide +kernel
theorem dX10_noisy_58 : decode cX10_noisy 58 = .ok (.getfield 175, 3) := by decide +kernel
theorem dX10_noisy_61 : decode cX10_noisy 61 = .ok (.ineg, 1) := by decide +kernel
theorem dX10_noisy_62 : decode cX10_noisy 62 = .ok (.if_icmp .ge 11, 3) := by decide +kernel
theorem dX10_noisy_65 : decode cX10_noisy 65 = .ok (.aload_n 0, 1) := by decide +kernel
theorem dX10_noisy_66 : decode cX10_noisy 66 = .ok (.getfield 175, 3) := by decide +kernel
theorem dX10_noisy_69 : decode cX10_noisy 69 = .ok (.ineg, 1) := by decide +kernel
theorem dX10_noisy_70 : decode cX10_noisy 70 = .ok (.goto 4, 3) := by decide +kernel
theorem dX10_noisy_73 : decode cX10_noisy 73 = .ok (.iload_n 3, 1) := by decide +kernel
theorem dX10_noisy_74 : decode cX10_noisy 74 = .ok (.ireturn, 1) := by decide +kernel
set_option maxRecDepth 20000 in
theorem ggX10_chanceOf_X10_asWas : GoodIn wsX10_chanceOf wsX10_asWas := goodIn_r _ [7, 8, 9, 10, 6, 11, 12, 13, 14, 15, 16, 17, 18, 19, 20, 21, 22, 23, 24, 25, 26, 27, 28, 29, 30, 31, 32, 33, 157, 158, 159, 160, 161, 162, 163, 164, 165, 166, 167, 168, 169, 170, 171, 172, 173, 174, 175, 176, 177, 178, 179, 180, 181, 182, 183, 184, 185, 186, 187, 188, 189, 190, 191, 192, 193] (by decide +kernel) (by decide +kernel)
set_option maxRecDepth 20000 in
theorem gX10_chanceOf_X10_asWas : GoodIn wsX10_chanceOf (wsV RX10 311 RX10 yX10_asWas wsX10_asWas) := goodIn_app (goodIn_of _ (by decide +kernel)) ggX10_chanceOf_X10_asWas
set_option maxRecDepth 20000 in
theorem ggX10_chanceOf_X10_size : GoodIn wsX10_chanceOf wsX10_size := goodIn_r _ [37, 1, 157, 158, 159, 160, 161, 162, 163, 164, 165, 166, 167, 168, 169, 170, 171, 172, 173, 174, 175, 176, 177, 178, 179, 180, 181, 182, 183, 184, 185, 186, 187, 188, 189, 190, 191, 192, 193] (by decide +kernel) (by decide +kernel)
set_option maxRecDepth 20000 in
theorem gX10_chanceOf_X10_size : GoodIn wsX10_chanceOf (wsV RX10 196 RX10 yX10_size wsX10_size) := goodIn_app (goodIn_of _ (by decide +kernel)) ggX10_chanceOf_X10_size
set_option maxRecDepth 20000 in
theorem ggX10_chanceOf_X10_of : GoodIn wsX10_chanceOf wsX10_of := goodIn_r _ [21, 17, 12, 157, 158, 159, 160, 161, 162, 163, 164, 165, 166, 167, 168, 169, 170, 171, 172, 173, 174, 175, 176, 177, 178, 179, 180, 181, 182, 183, 184, 185, 186, 187, 188, 189, 190, 191, 192, 193] (by decide +kernel) (by decide +kernel)
set_option maxRecDepth 20000 in
theorem gX10_chanceOf_X10_of : GoodIn wsX10_chanceOf (wsV RX10 187 RX10 yX10_of wsX10_of) := goodIn_app (goodIn_of _ (by decide +kernel)) ggX10_chanceOf_X10_of
set_option maxRecDepth 20000 in
theorem ggX10_chanceOf_X10_noisy : GoodIn wsX10_chanceOf wsX10_noisy := goodIn_r _ [41, 2, 42, 43, 44, 45, 46, 157, 158, 159, 160, 161, 162, 163, 164, 165, 166, 167, 168, 169, 170, 171, 172, 173, 174, 175, 176, 177, 178, 179, 180, 181, 182, 183, 184, 185, 186, 187, 188, 189, 190, 191, 192, 193] (by decide +kernel) (by decide +kernel)
set_option maxRecDepth 20000 in
theorem gX10_chanceOf_X10_noisy : GoodIn wsX10_chanceOf (wsV RX10 402 RX10 yX10_noisy wsX10_noisy) := goodIn_app (goodIn_of _ (by decide +kernel)) ggX10_chanceOf_X10_noisy
set_option maxRecDepth 20000 in
theorem ggX10_chanceOf_X10_lay : GoodIn wsX10_chanceOf wsX10_lay := goodIn_r _ [25, 17, 12, 157, 158, 159, 160, 161, 162, 163, 164, 165, 166, 167, 168, 169, 170, 171, 172, 173, 174, 175, 176, 177, 178, 179, 180, 181, 182, 183, 184, 185, 186, 187, 188, 189, 190, 191, 192, 193] (by decide +kernel) (by decide +kernel)
set_option maxRecDepth 20000 in
theorem gX10_chanceOf_X10_lay : GoodIn wsX10_chanceOf (wsV RX10 118 RX10 yX10_lay wsX10_lay) := goodIn_app (goodIn_of _ (by decide +kernel)) ggX10_chanceOf_X10_lay
set_option maxRecDepth 20000 in
theorem ggX10_chanceOf_X10_expRun : GoodIn wsX10_chanceOf wsX10_expRun := goodIn_r _ [50, 51, 52, 53, 6, 54, 55, 56, 57, 58, 18, 19, 20, 21, 17, 12, 59, 60, 61, 62, 63, 64, 65, 66, 67, 68, 69, 70, 71, 72, 73, 74, 75, 76, 77, 78, 79, 34, 35, 36, 37, 1, 80, 81, 82, 83, 84, 85, 86, 87, 88, 89, 90, 91, 22, 23, 24, 25, 92, 93, 94, 95, 96, 46, 97, 98, 99, 100, 101, 102, 103, 104, 105, 106, 107, 108, 109, 110, 111, 112, 113, 114, 115, 116, 117, 118, 119, 120, 121, 122, 123, 124, 125, 126, 127, 128, 129, 130, 131, 132, 133, 134, 135, 136, 137, 138, 139, 140, 141, 142, 143, 144, 145, 157, 158, 159, 160, 161, 162, 163, 164, 165, 166, 167, 168, 169, 170, 171, 172, 173, 174, 175, 176, 177, 178, 179, 180, 181, 182, 183, 184, 185, 186, 187, 188, 189, 190, 191, 192, 193] (by decide +kernel) (by decide +kernel)
set_option maxRecDepth 20000 in
theorem gX10_chanceOf_X10_expRun : GoodIn wsX10_chanceOf (wsV RX10 314 RX10 yX10_expRun wsX10_expRun) := goodIn_app (goodIn_of _ (by decide +kernel)) ggX10_chanceOf_X10_expRun
set_option maxRecDepth 20000 in
theorem ggX10_chanceOf_X10_asItIs : GoodIn wsX10_chanceOf wsX10_asItIs := goodIn_r _ [149, 12, 150, 151, 152, 6, 153, 1, 63, 73, 112, 46, 96, 154, 155, 156, 157, 158, 159, 160, 161, 162, 163, 164, 165, 166, 167, 168, 169, 170, 171, 172, 173, 174, 175, 176, 177, 178, 179, 180, 181, 182, 183, 184, 185, 186, 187, 188, 189, 190, 191, 192, 193] (by decide +kernel) (by decide +kernel)
set_option maxRecDepth 20000 in
theorem gX10_chanceOf_X10_asItIs : GoodIn wsX10_chanceOf (wsV RX10 289 RX10 yX10_asItIs wsX10_asItIs) := goodIn_app (goodIn_of _ (by decide +kernel)) ggX10_chanceOf_X10_asItIs
theorem dX10_chanceOf_0 : decode cX10_chanceOf 0 = .ok (.aload_n 0, 1) := by decide +kernel
theorem dX10_chanceOf_1 : decode cX10_chanceOf 1 = .ok (.iload_n 1, 1) := by decide +kernel
theorem dX10_chanceOf_2 : decode cX10_chanceOf 2 = .ok (.ifCond .ge 13, 3) := by decide +kernel
theorem dX10_chanceOf_5 : decode cX10_chanceOf 5 = .ok (.aload_n 0, 1) := by decide +kernel
theorem dX10_chanceOf_6 : decode cX10_chanceOf 6 = .ok (.getfield 20, 3) := by decide +kernel
theorem dX10_chanceOf_9 : decode cX10_chanceOf 9 = .ok (.iconst 5, 1) := by decide +kernel
theorem dX10_chanceOf_10 : decode cX10_chanceOf 10 = .ok (.iaload, 1) := by decide +kernel
theorem dX10_chanceOf_11 : decode cX10_chanceOf 11 = .ok (.i2l, 1) := by decide +kernel
theorem dX10_chanceOf_12 : decode cX10_chanceOf 12 = .ok (.goto 5, 3) := by decide +kernel
theorem dX10_chanceOf_15 : decode cX10_chanceOf 15 = .ok (.iload_n 1, 1) := by decide +kernel
theorem dX10_chanceOf_16 : decode cX10_chanceOf 16 = .ok (.i2l, 1) := by decide +kernel
theorem dX10_chanceOf_17 : decode cX10_chanceOf 17 = .ok (.putfield 390, 3) := by decide +kernel
theorem dX10_chanceOf_20 : decode cX10_chanceOf 20 = .ok (.iconst 0, 1) := by decide +kernel
theorem dX10_chanceOf_21 : decode cX10_chanceOf 21 = .ok (.istore 4, 2) := by decide +kernel
theorem dX10_chanceOf_23 : decode cX10_chanceOf 23 = .ok (.iconst 0, 1) := by decide +kernel
theorem dX10_chanceOf_24 : decode cX10_chanceOf 24 = .ok (.istore 5, 2) := by decide +kernel
theorem dX10_chanceOf_26 : decode cX10_chanceOf 26 = .ok (.iload 5, 2) := by decide +kernel
theorem dX10_chanceOf_28 : decode cX10_chanceOf 28 = .ok (.bipush 10, 2) := by decide +kernel
theorem dX10_chanceOf_30 : decode cX10_chanceOf 30 = .ok (.if_icmp .ge 93, 3) := by decide +kernel
theorem dX10_chanceOf_33 : decode cX10_chanceOf 33 = .ok (.aload_n 0, 1) := by decide +kernel
theorem dX10_chanceOf_34 : decode cX10_chanceOf 34 = .ok (.invokevirtual 311, 3) := by decide +kernel
theorem dX10_chanceOf_37 : decode cX10_chanceOf 37 = .ok (.iconst 0, 1) := by decide +kernel
theorem dX10_chanceOf_38 : decode cX10_chanceOf 38 = .ok (.istore 6, 2) := by decide +kernel
theorem dX10_chanceOf_40 : decode cX10_chanceOf 40 = .ok (.iload 6, 2) := by decide +kernel
theorem dX10_chanceOf_42 : decode cX10_chanceOf 42 = .ok (.aload_n 0, 1) := by decide +kernel
theorem dX10_chanceOf_43 : decode cX10_chanceOf 43 = .ok (.invokevirtual 196, 3) := by decide +kernel
theorem dX10_chanceOf_46 : decode cX10_chanceOf 46 = .ok (.if_icmp .ge 49, 3) := by decide +kernel
theorem dX10_chanceOf_49 : decode cX10_chanceOf 49 = .ok (.aload_n 0, 1) := by decide +kernel
theorem dX10_chanceOf_50 : decode cX10_chanceOf 50 = .ok (.iload 6, 2) := by decide +kernel
theorem dX10_chanceOf_52 : decode cX10_chanceOf 52 = .ok (.aload_n 0, 1) := by decide +kernel
theorem dX10_chanceOf_53 : decode cX10_chanceOf 53 = .ok (.aload_n 0, 1) := by decide +kernel
theorem dX10_chanceOf_54 : decode cX10_chanceOf 54 = .ok (.iload 6, 2) := by decide +kernel
theorem dX10_chanceOf_56 : decode cX10_chanceOf 56 = .ok (.invokevirtual 187, 3) := by decide +kernel
theorem dX10_chanceOf_59 : decode cX10_chanceOf 59 = .ok (.iload_n 2, 1) := by decide +kernel
theorem dX10_chanceOf_60 : decode cX10_chanceOf 60 = .ok (.invokevirtual 402, 3) := by decide +kernel
theorem dX10_chanceOf_63 : decode cX10_chanceOf 63 = .ok (.invokevirtual 118, 3) := by decide +kernel
theorem dX10_chanceOf_66 : decode cX10_chanceOf 66 = .ok (.aload_n 0, 1) := by decide +kernel
theorem dX10_chanceOf_67 : decode cX10_chanceOf 67 = .ok (.bipush 32, 2) := by decide +kernel
theorem dX10_chanceOf_69 : decode cX10_chanceOf 69 = .ok (.iload 6, 2) := by decide +kernel
theorem dX10_chanceOf_71 : decode cX10_chanceOf 71 = .ok (.iadd, 1) := by decide +kernel
theorem dX10_chanceOf_72 : decode cX10_chanceOf 72 = .ok (.aload_n 0, 1) := by decide +kernel
theorem dX10_chanceOf_73 : decode cX10_chanceOf 73 = .ok (.aload_n 0, 1) := by decide +kernel
theorem dX10_chanceOf_74 : decode cX10_chanceOf 74 = .ok (.bipush 32, 2) := by decide +kernel
theorem dX10_chanceOf_76 : decode cX10_chanceOf 76 = .ok (.iload 6, 2) := by decide +kernel
theorem dX10_chanceOf_78 : decode cX10_chanceOf 78 = .ok (.iadd, 1) := by decide +kernel
theorem dX10_chanceOf_79 : decode cX10_chanceOf 79 = .ok (.invokevirtual 187, 3) := by decide +kernel
theorem dX10_chanceOf_82 : decode cX10_chanceOf 82 = .ok (.iload_n 2, 1) := by decide +kernel
theorem dX10_chanceOf_83 : decode cX10_chanceOf 83 = .ok (.invokevirtual 402, 3) := by decide +kernel
theorem dX10_chanceOf_86 : decode cX10_chanceOf 86 = .ok (.invokevirtual 118, 3) := by decide +kernel
theorem dX10_chanceOf_89 : decode cX10_chanceOf 89 = .ok (.iinc 6 1, 3) := by decide +kernel
theorem dX10_chanceOf_92 : decode cX10_chanceOf 92 = .ok (.goto (-52), 3) := by decide +kernel
theorem dX10_chanceOf_95 : decode cX10_chanceOf 95 = .ok (.iload 4, 2) := by decide +kernel
theorem dX10_chanceOf_97 : decode cX10_chanceOf 97 = .ok (.aload_n 0, 1) := by decide +kernel
theorem dX10_chanceOf_98 : decode cX10_chanceOf 98 = .ok (.invokevirtual 314, 3) := by decide +kernel
theorem dX10_chanceOf_101 : decode cX10_chanceOf 101 = .ok (.iload_n 3, 1) := by decide +kernel
theorem dX10_chanceOf_102 : decode cX10_chanceOf 102 = .ok (.if_icmp .lt 7, 3) := by decide +kernel
theorem dX10_chanceOf_105 : decode cX10_chanceOf 105 = .ok (.iconst 1, 1) := by decide +kernel
theorem dX10_chanceOf_106 : decode cX10_chanceOf 106 = .ok (.goto 4, 3) := by decide +kernel
theorem dX10_chanceOf_109 : decode cX10_chanceOf 109 = .ok (.iconst 0, 1) := by decide +kernel
theorem dX10_chanceOf_110 : decode cX10_chanceOf 110 = .ok (.iadd, 1) := by decide +kernel
theorem dX10_chanceOf_111 : decode cX10_chanceOf 111 = .ok (.istore 4, 2) := by decide +kernel
theorem dX10_chanceOf_113 : decode cX10_chanceOf 113 = .ok (.aload_n 0, 1) := by decide +kernel
theorem dX10_chanceOf_114 : decode cX10_chanceOf 114 = .ok (.invokevirtual 289, 3) := by decide +kernel
theorem dX10_chanceOf_117 : decode cX10_chanceOf 117 = .ok (.iinc 5 1, 3) := by decide +kernel
theorem dX10_chanceOf_120 : decode cX10_chanceOf 120 = .ok (.goto (-94), 3) := by decide +kernel
theorem dX10_chanceOf_123 : decode cX10_chanceOf 123 = .ok (.iload 4, 2) := by decide +kernel
theorem dX10_chanceOf_125 : decode cX10_chanceOf 125 = .ok (.ireturn, 1) := by decide +kernel
set_option maxRecDepth 20000 in
theorem ggX10_chance_X10_isIn : GoodIn wsX10_chance wsX10_isIn := goodIn_r _ [5] (by decide +kernel) (by decide +kernel)
set_option maxRecDepth 20000 in
theorem gX10_chance_X10_isIn : GoodIn wsX10_chance (va_wsS RX10 138 yX10_isIn wsX10_isIn) := goodIn_app (goodIn_of _ (by decide +kernel)) ggX10_chance_X10_isIn
set_option maxRecDepth 20000 in
theorem ggX10_chance_X10_chanceOf : GoodIn wsX10_chance wsX10_chanceOf := goodIn_r _ [9, 10, 11, 12, 13, 14, 4, 15, 16, 17, 18, 19, 20, 21, 22, 23, 24, 25, 26, 27, 28, 29, 30, 31, 32, 33, 34, 35, 36, 37, 38, 39, 40, 41, 42, 43, 44, 45, 46, 47, 48, 49, 50, 51, 52, 53, 54, 55, 56, 57, 58, 59, 60, 61, 62, 63, 64, 65, 66, 67, 68, 69, 70, 71, 72, 73, 74, 75, 76, 77, 78, 79, 80, 81, 82, 83, 84, 85, 86, 87, 88, 89, 90, 91, 92, 93, 94, 95, 96, 97, 98, 99, 100, 101, 102, 103, 104, 105, 106, 107, 108, 109, 110, 111, 112, 113, 114, 115, 116, 117, 118, 119, 120, 121, 122, 123, 124, 125, 126, 127, 128, 129, 130, 131, 132, 133, 134, 135, 136, 137, 138, 139, 140, 141, 142, 143, 144, 145, 146, 147, 148, 149, 150, 151, 152, 153, 154, 155, 156, 157, 158, 159, 160, 161, 162, 163, 164, 165, 166, 167, 168, 169, 170, 171, 172, 173, 174, 175, 176, 177, 178, 179, 180, 181, 182, 183, 184, 185, 186, 187, 188, 189, 190, 191, 192, 193, 194, 195, 196, 197, 198, 199, 200, 201] (by decide +kernel) (by decide +kernel)
set_option maxRecDepth 20000 in
theorem gX10_chance_X10_chanceOf : GoodIn wsX10_chance (wsV RX10 405 RX10 yX10_chanceOf wsX10_chanceOf) := goodIn_app (goodIn_of _ (by decide +kernel)) ggX10_chance_X10_chanceOf
theorem dX10_chance_0 : decode cX10_chance 0 = .ok (.aload_n 0, 1) := by decide +kernel
theorem dX10_chance_1 : decode cX10_chance 1 = .ok (.iconst 0, 1) := by decide +kernel
theorem dX10_chance_2 : decode cX10_chance 2 = .ok (.putfield 70, 3) := by decide +kernel
theorem dX10_chance_5 : decode cX10_chance 5 = .ok (.iload_n 1, 1) := by decide +kernel
theorem dX10_chance_6 : decode cX10_chance 6 = .ok (.iconst (-1), 1) := by decide +kernel
theorem dX10_chance_7 : decode cX10_chance 7 = .ok (.if_icmp .lt 33, 3) := by decide +kernel
theorem dX10_chance_10 : decode cX10_chance 10 = .ok (.iload_n 2, 1) := by decide +kernel
theorem dX10_chance_11 : decode cX10_chance 11 = .ok (.iconst 1, 1) := by decide +kernel
theorem dX10_chance_12 : decode cX10_chance 12 = .ok (.bipush 99, 2) := by decide +kernel
theorem dX10_chance_14 : decode cX10_chance 14 = .ok (.invokestatic 138, 3) := by decide +kernel
theorem dX10_chance_17 : decode cX10_chance 17 = .ok (.ifCond .eq 23, 3) := by decide +kernel
theorem dX10_chance_20 : decode cX10_chance 20 = .ok (.iload_n 3, 1) := by decide +kernel
theorem dX10_chance_21 : decode cX10_chance 21 = .ok (.iconst 0, 1) := by decide +kernel
theorem dX10_chance_22 : decode cX10_chance 22 = .ok (.bipush 20, 2) := by decide +kernel
theorem dX10_chance_24 : decode cX10_chance 24 = .ok (.invokestatic 138, 3) := by decide +kernel
theorem dX10_chance_27 : decode cX10_chance 27 = .ok (.ifCond .eq 13, 3) := by decide +kernel
theorem dX10_chance_30 : decode cX10_chance 30 = .ok (.aload_n 0, 1) := by decide +kernel
theorem dX10_chance_31 : decode cX10_chance 31 = .ok (.iload_n 1, 1) := by decide +kernel
theorem dX10_chance_32 : decode cX10_chance 32 = .ok (.iload_n 2, 1) := by decide +kernel
theorem dX10_chance_33 : decode cX10_chance 33 = .ok (.iload_n 3, 1) := by decide +kernel
theorem dX10_chance_34 : decode cX10_chance 34 = .ok (.invokevirtual 405, 3) := by decide +kernel
theorem dX10_chance_37 : decode cX10_chance 37 = .ok (.goto 4, 3) := by decide +kernel
theorem dX10_chance_40 : decode cX10_chance 40 = .ok (.iconst (-1), 1) := by decide +kernel
theorem dX10_chance_41 : decode cX10_chance 41 = .ok (.ireturn, 1) := by decide +kernel
set_option maxRecDepth 20000 in
theorem ggX10_noise_X10_isIn : GoodIn wsX10_noise wsX10_isIn := goodIn_r _ [5] (by decide +kernel) (by decide +kernel)
set_option maxRecDepth 20000 in
theorem gX10_noise_X10_isIn : GoodIn wsX10_noise (va_wsS RX10 138 yX10_isIn wsX10_isIn) := goodIn_app (goodIn_of _ (by decide +kernel)) ggX10_noise_X10_isIn
set_option maxRecDepth 20000 in
theorem ggX10_noise_X10_chanceOf : GoodIn wsX10_noise wsX10_chanceOf := goodIn_r _ [9, 10, 11, 12, 13, 14, 4, 15, 16, 17, 18, 19, 20, 21, 22, 23, 24, 25, 26, 27, 28, 29, 30, 31, 32, 33, 34, 35, 36, 37, 38, 39, 40, 41, 42, 43, 44, 45, 46, 47, 48, 49, 50, 51, 52, 53, 54, 55, 56, 57, 58, 59, 60, 61, 62, 63, 64, 65, 66, 67, 68, 69, 70, 71, 72, 73, 74, 75, 76, 77, 78, 79, 80, 81, 82, 83, 84, 85, 86, 87, 88, 89, 90, 91, 92, 93, 94, 95, 96, 97, 98, 99, 100, 101, 102, 103, 104, 105, 106, 107, 108, 109, 110, 111, 112, 113, 114, 115, 116, 117, 118, 119, 120, 121, 122, 123, 124, 125, 126, 127, 128, 129, 130, 131, 132, 133, 134, 135, 136, 137, 138, 139, 140, 141, 142, 143, 144, 145, 146, 147, 148, 149, 150, 151, 152, 153, 154, 155, 156, 157, 158, 159, 160, 161, 162, 163, 164, 165, 166, 167, 168, 169, 170, 171, 172, 173, 174, 175, 176, 177, 178, 179, 180, 181, 182, 183, 184, 185, 186, 187, 188, 189, 190, 191, 192, 193, 194, 195, 196, 197, 198, 199, 200, 201] (by decide +kernel) (by decide +kernel)
set_option maxRecDepth 20000 in
theorem gX10_noise_X10_chanceOf : GoodIn wsX10_noise (wsV RX10 405 RX10 yX10_chanceOf wsX10_chanceOf) := goodIn_app (goodIn_of _ (by decide +kernel)) ggX10_noise_X10_chanceOf
theorem dX10_noise_0 : decode cX10_noise 0 = .ok (.aload_n 0, 1) := by decide +kernel
theorem dX10_noise_1 : decode cX10_noise 1 = .ok (.iconst 0, 1) := by decide +kernel
theorem dX10_noise_2 : decode cX10_noise 2 = .ok (.putfield 70, 3) := by decide +kernel
theorem dX10_noise_5 : decode cX10_noise 5 = .ok (.iload_n 1, 1) := by decide +kernel
theorem dX10_noise_6 : decode cX10_noise 6 = .ok (.iconst (-1), 1) := by decide +kernel
theorem dX10_noise_7 : decode cX10_noise 7 = .ok (.if_icmp .lt 13, 3) := by decide +kernel
theorem dX10_noise_10 : decode cX10_noise 10 = .ok (.iload_n 2, 1) := by decide +kernel
theorem dX10_noise_11 : decode cX10_noise 11 = .ok (.iconst 0, 1) := by decide +kernel
theorem dX10_noise_12 : decode cX10_noise 12 = .ok (.bipush 20, 2) := by decide +kernel
theorem dX10_noise_14 : decode cX10_noise 14 = .ok (.invokestatic 138, 3) := by decide +kernel
theorem dX10_noise_17 : decode cX10_noise 17 = .ok (.ifCond .ne 5, 3) := by decide +kernel
theorem dX10_noise_20 : decode cX10_noise 20 = .ok (.iconst (-1), 1) := by decide +kernel
theorem dX10_noise_21 : decode cX10_noise 21 = .ok (.ireturn, 1) := by decide +kernel
theorem dX10_noise_22 : decode cX10_noise 22 = .ok (.iconst 1, 1) := by decide +kernel
theorem dX10_noise_23 : decode cX10_noise 23 = .ok (.istore_n 3, 1) := by decide +kernel
theorem dX10_noise_24 : decode cX10_noise 24 = .ok (.iload_n 3, 1) := by decide +kernel
theorem dX10_noise_25 : decode cX10_noise 25 = .ok (.bipush 99, 2) := by decide +kernel
theorem dX10_noise_27 : decode cX10_noise 27 = .ok (.if_icmp .gt 22, 3) := by decide +kernel
theorem dX10_noise_30 : decode cX10_noise 30 = .ok (.aload_n 0, 1) := by decide +kernel
theorem dX10_noise_31 : decode cX10_noise 31 = .ok (.iload_n 1, 1) := by decide +kernel
theorem dX10_noise_32 : decode cX10_noise 32 = .ok (.iload_n 3, 1) := by decide +kernel
theorem dX10_noise_33 : decode cX10_noise 33 = .ok (.iload_n 2, 1) := by decide +kernel
theorem dX10_noise_34 : decode cX10_noise 34 = .ok (.invokevirtual 405, 3) := by decide +kernel
theorem dX10_noise_37 : decode cX10_noise 37 = .ok (.iconst 5, 1) := by decide +kernel
theorem dX10_noise_38 : decode cX10_noise 38 = .ok (.if_icmp .lt 5, 3) := by decide +kernel
theorem dX10_noise_41 : decode cX10_noise 41 = .ok (.iload_n 3, 1) := by decide +kernel
theorem dX10_noise_42 : decode cX10_noise 42 = .ok (.ireturn, 1) := by decide +kernel
theorem dX10_noise_43 : decode cX10_noise 43 = .ok (.iinc 3 1, 3) := by decide +kernel
theorem dX10_noise_46 : decode cX10_noise 46 = .ok (.goto (-22), 3) := by decide +kernel
theorem dX10_noise_49 : decode cX10_noise 49 = .ok (.bipush (-2), 2) := by decide +kernel
theorem dX10_noise_51 : decode cX10_noise 51 = .ok (.ireturn, 1) := by decide +kernel
set_option maxRecDepth 20000 in
theorem ggX10_expWithout_X10_asWas : GoodIn wsX10_expWithout wsX10_asWas := goodIn_r _ [5, 6, 7, 8, 4, 9, 10, 11, 12, 13, 14, 15, 16, 17, 18, 19, 20, 21, 22, 23, 24, 25, 26, 27, 28, 29, 30, 31, 148, 149, 150, 151, 152, 153, 154, 155, 156, 157, 158, 159, 160, 161, 162, 163, 164, 165, 166, 167, 168, 169, 170, 171, 172, 173, 174, 175, 176, 177, 178, 179, 180, 181, 182, 183, 184] (by decide +kernel) (by decide +kernel)
set_option maxRecDepth 20000 in
theorem gX10_expWithout_X10_asWas : GoodIn wsX10_expWithout (wsV RX10 311 RX10 yX10_asWas wsX10_asWas) := goodIn_app (goodIn_of _ (by decide +kernel)) ggX10_expWithout_X10_asWas
set_option maxRecDepth 20000 in
theorem ggX10_expWithout_X10_lay : GoodIn wsX10_expWithout wsX10_lay := goodIn_r _ [23, 15, 10, 148, 149, 150, 151, 152, 153, 154, 155, 156, 157, 158, 159, 160, 161, 162, 163, 164, 165, 166, 167, 168, 169, 170, 171, 172, 173, 174, 175, 176, 177, 178, 179, 180, 181, 182, 183, 184] (by decide +kernel) (by decide +kernel)
set_option maxRecDepth 20000 in
theorem gX10_expWithout_X10_lay : GoodIn wsX10_expWithout (wsV RX10 118 RX10 yX10_lay wsX10_lay) := goodIn_app (goodIn_of _ (by decide +kernel)) ggX10_expWithout_X10_lay
set_option maxRecDepth 20000 in
theorem ggX10_expWithout_X10_expRun : GoodIn wsX10_expWithout wsX10_expRun := goodIn_r _ [35, 36, 37, 38, 4, 39, 40, 41, 42, 43, 16, 17, 18, 19, 15, 10, 44, 45, 46, 47, 48, 49, 50, 51, 52, 53, 54, 55, 56, 57, 58, 59, 60, 61, 62, 63, 64, 65, 66, 67, 68, 69, 70, 71, 72, 73, 74, 75, 76, 77, 78, 79, 80, 81, 20, 21, 22, 23, 82, 83, 84, 85, 86, 87, 88, 89, 90, 91, 92, 93, 94, 95, 96, 97, 98, 99, 100, 101, 102, 103, 104, 105, 106, 107, 108, 109, 110, 111, 112, 113, 114, 115, 116, 117, 118, 119, 120, 121, 122, 123, 124, 125, 126, 127, 128, 129, 130, 131, 132, 133, 134, 135, 136, 148, 149, 150, 151, 152, 153, 154, 155, 156, 157, 158, 159, 160, 161, 162, 163, 164, 165, 166, 167, 168, 169, 170, 171, 172, 173, 174, 175, 176, 177, 178, 179, 180, 181, 182, 183, 184] (by decide +kernel) (by decide +kernel)
set_option maxRecDepth 20000 in
theorem gX10_expWithout_X10_expRun : GoodIn wsX10_expWithout (wsV RX10 314 RX10 yX10_expRun wsX10_expRun) := goodIn_app (goodIn_of _ (by decide +kernel)) ggX10_expWithout_X10_expRun
set_option maxRecDepth 20000 in
theorem ggX10_expWithout_X10_asItIs : GoodIn wsX10_expWithout wsX10_asItIs := goodIn_r _ [140, 10, 141, 142, 143, 4, 144, 69, 48, 58, 103, 87, 86, 145, 146, 147, 148, 149, 150, 151, 152, 153, 154, 155, 156, 157, 158, 159, 160, 161, 162, 163, 164, 165, 166, 167, 168, 169, 170, 171, 172, 173, 174, 175, 176, 177, 178, 179, 180, 181, 182, 183, 184] (by decide +kernel) (by decide +kernel)
set_option maxRecDepth 20000 in
theorem gX10_expWithout_X10_asItIs : GoodIn wsX10_expWithout (wsV RX10 289 RX10 yX10_asItIs wsX10_asItIs) := goodIn_app (goodIn_of _ (by decide +kernel)) ggX10_expWithout_X10_asItIs
theorem dX10_expWithout_0 : decode cX10_expWithout 0 = .ok (.aload_n 0, 1) := by decide +kernel
theorem dX10_expWithout_1 : decode cX10_expWithout 1 = .ok (.invokevirtual 311, 3) := by decide +kernel
theorem dX10_expWithout_4 : decode cX10_expWithout 4 = .ok (.aload_n 0, 1) := by decide +kernel
theorem dX10_expWithout_5 : decode cX10_expWithout 5 = .ok (.iload_n 1, 1) := by decide +kernel
theorem dX10_expWithout_6 : decode cX10_expWithout 6 = .ok (.iconst 0, 1) := by decide +kernel
theorem dX10_expWithout_7 : decode cX10_expWithout 7 = .ok (.invokevirtual 118, 3) := by decide +kernel
theorem dX10_expWithout_10 : decode cX10_expWithout 10 = .ok (.aload_n 0, 1) := by decide +kernel
theorem dX10_expWithout_11 : decode cX10_expWithout 11 = .ok (.bipush 32, 2) := by decide +kernel
theorem dX10_expWithout_13 : decode cX10_expWithout 13 = .ok (.iload_n 1, 1) := by decide +kernel
theorem dX10_expWithout_14 : decode cX10_expWithout 14 = .ok (.iadd, 1) := by decide +kernel
theorem dX10_expWithout_15 : decode cX10_expWithout 15 = .ok (.iconst 0, 1) := by decide +kernel
theorem dX10_expWithout_16 : decode cX10_expWithout 16 = .ok (.invokevirtual 118, 3) := by decide +kernel
theorem dX10_expWithout_19 : decode cX10_expWithout 19 = .ok (.aload_n 0, 1) := by decide +kernel
theorem dX10_expWithout_20 : decode cX10_expWithout 20 = .ok (.invokevirtual 314, 3) := by decide +kernel
theorem dX10_expWithout_23 : decode cX10_expWithout 23 = .ok (.istore_n 2, 1) := by decide +kernel
theorem dX10_expWithout_24 : decode cX10_expWithout 24 = .ok (.aload_n 0, 1) := by decide +kernel
theorem dX10_expWithout_25 : decode cX10_expWithout 25 = .ok (.invokevirtual 289, 3) := by decide +kernel
theorem dX10_expWithout_28 : decode cX10_expWithout 28 = .ok (.iload_n 2, 1) := by decide +kernel
theorem dX10_expWithout_29 : decode cX10_expWithout 29 = .ok (.ireturn, 1) := by decide +kernel
set_option maxRecDepth 20000 in
theorem ggX10_tried_X10_isIn : GoodIn wsX10_tried wsX10_isIn := goodIn_r _ [8] (by decide +kernel) (by decide +kernel)
set_option maxRecDepth 20000 in
theorem gX10_tried_X10_isIn : GoodIn wsX10_tried (va_wsS RX10 138 yX10_isIn wsX10_isIn) := goodIn_app (goodIn_of _ (by decide +kernel)) ggX10_tried_X10_isIn
set_option maxRecDepth 20000 in
theorem ggX10_tried_X10_isPlace : GoodIn wsX10_tried wsX10_isPlace := goodIn_r _ [12, 13, 14, 15, 7, 16, 17, 160, 161, 162, 163, 164, 165, 166, 167, 168, 169, 170, 171, 172, 173, 174, 175, 176, 177, 178, 179, 180, 181, 182, 183, 184, 185, 186, 187, 188, 189, 190, 191, 192, 193, 194, 195, 196] (by decide +kernel) (by decide +kernel)
set_option maxRecDepth 20000 in
theorem gX10_tried_X10_isPlace : GoodIn wsX10_tried (wsV RX10 203 RX10 yX10_isPlace wsX10_isPlace) := goodIn_app (goodIn_of _ (by decide +kernel)) ggX10_tried_X10_isPlace
set_option maxRecDepth 20000 in
theorem ggX10_tried_X10_expWithout : GoodIn wsX10_tried wsX10_expWithout := goodIn_r _ [21, 22, 23, 24, 7, 25, 26, 27, 28, 29, 30, 31, 32, 33, 34, 35, 36, 37, 38, 39, 40, 41, 42, 43, 44, 45, 46, 47, 48, 49, 50, 51, 52, 53, 54, 55, 56, 57, 58, 59, 60, 61, 62, 63, 64, 65, 66, 67, 3, 68, 69, 70, 71, 72, 73, 74, 75, 76, 4, 77, 78, 79, 80, 81, 82, 13, 14, 15, 16, 17, 83, 84, 85, 86, 87, 88, 89, 90, 91, 92, 93, 94, 95, 96, 97, 98, 99, 100, 101, 102, 103, 104, 105, 106, 107, 108, 109, 110, 111, 112, 113, 114, 115, 2, 116, 117, 118, 119, 120, 121, 122, 123, 124, 125, 126, 127, 128, 129, 130, 131, 132, 133, 134, 135, 136, 137, 138, 139, 140, 141, 142, 143, 144, 145, 146, 147, 148, 149, 150, 151, 152, 153, 154, 155, 156, 157, 158, 159, 160, 161, 162, 163, 164, 165, 166, 167, 168, 169, 170, 171, 172, 173, 174, 175, 176, 177, 178, 179, 180, 181, 182, 183, 184, 185, 186, 187, 188, 189, 190, 191, 192, 193, 194, 195, 196] (by decide +kernel) (by decide +kernel)
set_option maxRecDepth 20000 in
theorem gX10_tried_X10_expWithout : GoodIn wsX10_tried (wsV RX10 408 RX10 yX10_expWithout wsX10_expWithout) := goodIn_app (goodIn_of _ (by decide +kernel)) ggX10_tried_X10_expWithout
set_option maxRecDepth 20000 in
theorem ggX10_tried_X10_asWas : GoodIn wsX10_tried wsX10_asWas := goodIn_r _ [25, 26, 27, 28, 7, 29, 30, 31, 32, 33, 34, 35, 36, 37, 38, 39, 40, 41, 42, 43, 44, 45, 46, 47, 48, 49, 50, 51, 160, 161, 162, 163, 164, 165, 166, 167, 168, 169, 170, 171, 172, 173, 174, 175, 176, 177, 178, 179, 180, 181, 182, 183, 184, 185, 186, 187, 188, 189, 190, 191, 192, 193, 194, 195, 196] (by decide +kernel) (by decide +kernel)
set_option maxRecDepth 20000 in
theorem gX10_tried_X10_asWas : GoodIn wsX10_tried (wsV RX10 311 RX10 yX10_asWas wsX10_asWas) := goodIn_app (goodIn_of _ (by decide +kernel)) ggX10_tried_X10_asWas
set_option maxRecDepth 20000 in
theorem ggX10_tried_X10_expRun : GoodIn wsX10_tried wsX10_expRun := goodIn_r _ [55, 56, 57, 58, 7, 59, 60, 61, 62, 63, 36, 37, 38, 39, 35, 30, 64, 65, 66, 67, 3, 68, 69, 70, 71, 72, 73, 74, 75, 76, 4, 77, 78, 79, 80, 81, 82, 13, 14, 15, 16, 17, 83, 84, 85, 86, 87, 88, 89, 90, 91, 92, 93, 94, 40, 41, 42, 43, 95, 96, 97, 98, 99, 100, 101, 102, 103, 104, 105, 106, 107, 108, 109, 110, 111, 112, 113, 114, 115, 2, 116, 117, 118, 119, 120, 121, 122, 123, 124, 125, 126, 127, 128, 129, 130, 131, 132, 133, 134, 135, 136, 137, 138, 139, 140, 141, 142, 143, 144, 145, 146, 147, 148, 160, 161, 162, 163, 164, 165, 166, 167, 168, 169, 170, 171, 172, 173, 174, 175, 176, 177, 178, 179, 180, 181, 182, 183, 184, 185, 186, 187, 188, 189, 190, 191, 192, 193, 194, 195, 196] (by decide +kernel) (by decide +kernel)
set_option maxRecDepth 20000 in
theorem gX10_tried_X10_expRun : GoodIn wsX10_tried (wsV RX10 314 RX10 yX10_expRun wsX10_expRun) := goodIn_app (goodIn_of _ (by decide +kernel)) ggX10_tried_X10_expRun
set_option maxRecDepth 20000 in
theorem ggX10_tried_X10_asItIs : GoodIn wsX10_tried wsX10_asItIs := goodIn_r _ [152, 30, 153, 154, 155, 7, 156, 17, 3, 4, 2, 100, 99, 157, 158, 159, 160, 161, 162, 163, 164, 165, 166, 167, 168, 169, 170, 171, 172, 173, 174, 175, 176, 177, 178, 179, 180, 181, 182, 183, 184, 185, 186, 187, 188, 189, 190, 191, 192, 193, 194, 195, 196] (by decide +kernel) (by decide +kernel)
set_option maxRecDepth 20000 in
theorem gX10_tried_X10_asItIs : GoodIn wsX10_tried (wsV RX10 289 RX10 yX10_asItIs wsX10_asItIs) := goodIn_app (goodIn_of _ (by decide +kernel)) ggX10_tried_X10_asItIs
theorem dX10_tried_0 : decode cX10_tried 0 = .ok (.aload_n 0, 1) := by decide +kernel
theorem dX10_tried_1 : decode cX10_tried 1 = .ok (.iconst 0, 1) := by decide +kernel
theorem dX10_tried_2 : decode cX10_tried 2 = .ok (.putfield 70, 3) := by decide +kernel
theorem dX10_tried_5 : decode cX10_tried 5 = .ok (.iload_n 1, 1) := by decide +kernel
theorem dX10_tried_6 : decode cX10_tried 6 = .ok (.iconst 0, 1) := by decide +kernel
theorem dX10_tried_7 : decode cX10_tried 7 = .ok (.iconst 4, 1) := by decide +kernel
theorem dX10_tried_8 : decode cX10_tried 8 = .ok (.invokestatic 138, 3) := by decide +kernel
theorem dX10_tried_11 : decode cX10_tried 11 = .ok (.ifCond .eq 23, 3) := by decide +kernel
theorem dX10_tried_14 : decode cX10_tried 14 = .ok (.iload_n 1, 1) := by decide +kernel
theorem dX10_tried_15 : decode cX10_tried 15 = .ok (.iconst 2, 1) := by decide +kernel
theorem dX10_tried_16 : decode cX10_tried 16 = .ok (.if_icmp .ne 14, 3) := by decide +kernel
theorem dX10_tried_19 : decode cX10_tried 19 = .ok (.aload_n 0, 1) := by decide +kernel
theorem dX10_tried_20 : decode cX10_tried 20 = .ok (.iload_n 2, 1) := by decide +kernel
theorem dX10_tried_21 : decode cX10_tried 21 = .ok (.invokevirtual 203, 3) := by decide +kernel
theorem dX10_tried_24 : decode cX10_tried 24 = .ok (.ifCond .ne 12, 3) := by decide +kernel
theorem dX10_tried_27 : decode cX10_tried 27 = .ok (.goto 7, 3) := by decide +kernel
theorem dX10_tried_30 : decode cX10_tried 30 = .ok (.iload_n 2, 1) := by decide +kernel
theorem dX10_tried_31 : decode cX10_tried 31 = .ok (.ifCond .eq 5, 3) := by decide +kernel
theorem dX10_tried_34 : decode cX10_tried 34 = .ok (.iconst (-1), 1) := by decide +kernel
theorem dX10_tried_35 : decode cX10_tried 35 = .ok (.ireturn, 1) := by decide +kernel
theorem dX10_tried_36 : decode cX10_tried 36 = .ok (.iload_n 1, 1) := by decide +kernel
theorem dX10_tried_37 : decode cX10_tried 37 = .ok (.iconst 2, 1) := by decide +kernel
theorem dX10_tried_38 : decode cX10_tried 38 = .ok (.if_icmp .ne 9, 3) := by decide +kernel
theorem dX10_tried_41 : decode cX10_tried 41 = .ok (.aload_n 0, 1) := by decide +kernel
theorem dX10_tried_42 : decode cX10_tried 42 = .ok (.iload_n 2, 1) := by decide +kernel
theorem dX10_tried_43 : decode cX10_tried 43 = .ok (.invokevirtual 408, 3) := by decide +kernel
theorem dX10_tried_46 : decode cX10_tried 46 = .ok (.ireturn, 1) := by decide +kernel
theorem dX10_tried_47 : decode cX10_tried 47 = .ok (.aload_n 0, 1) := by decide +kernel
theorem dX10_tried_48 : decode cX10_tried 48 = .ok (.invokevirtual 311, 3) := by decide +kernel
theorem dX10_tried_51 : decode cX10_tried 51 = .ok (.iload_n 1, 1) := by decide +kernel
theorem dX10_tried_52 : decode cX10_tried 52 = .ok (.iconst 1, 1) := by decide +kernel
theorem dX10_tried_53 : decode cX10_tried 53 = .ok (.if_icmp .gt 8, 3) := by decide +kernel
theorem dX10_tried_56 : decode cX10_tried 56 = .ok (.aload_n 0, 1) := by decide +kernel
theorem dX10_tried_57 : decode cX10_tried 57 = .ok (.iload_n 1, 1) := by decide +kernel
theorem dX10_tried_58 : decode cX10_tried 58 = .ok (.putfield 172, 3) := by decide +kernel
theorem dX10_tried_61 : decode cX10_tried 61 = .ok (.iload_n 1, 1) := by decide +kernel
theorem dX10_tried_62 : decode cX10_tried 62 = .ok (.iconst 3, 1) := by decide +kernel
theorem dX10_tried_63 : decode cX10_tried 63 = .ok (.if_icmp .ne 14, 3) := by decide +kernel
theorem dX10_tried_66 : decode cX10_tried 66 = .ok (.aload_n 0, 1) := by decide +kernel
theorem dX10_tried_67 : decode cX10_tried 67 = .ok (.bipush 6, 2) := by decide +kernel
theorem dX10_tried_69 : decode cX10_tried 69 = .ok (.aload_n 0, 1) := by decide +kernel
theorem dX10_tried_70 : decode cX10_tried 70 = .ok (.getfield 166, 3) := by decide +kernel
theorem dX10_tried_73 : decode cX10_tried 73 = .ok (.isub, 1) := by decide +kernel
theorem dX10_tried_74 : decode cX10_tried 74 = .ok (.putfield 166, 3) := by decide +kernel
theorem dX10_tried_77 : decode cX10_tried 77 = .ok (.iload_n 1, 1) := by decide +kernel
theorem dX10_tried_78 : decode cX10_tried 78 = .ok (.iconst 4, 1) := by decide +kernel
theorem dX10_tried_79 : decode cX10_tried 79 = .ok (.if_icmp .ne 13, 3) := by decide +kernel
theorem dX10_tried_82 : decode cX10_tried 82 = .ok (.aload_n 0, 1) := by decide +kernel
theorem dX10_tried_83 : decode cX10_tried 83 = .ok (.iconst 1, 1) := by decide +kernel
theorem dX10_tried_84 : decode cX10_tried 84 = .ok (.aload_n 0, 1) := by decide +kernel
theorem dX10_tried_85 : decode cX10_tried 85 = .ok (.getfield 169, 3) := by decide +kernel
theorem dX10_tried_88 : decode cX10_tried 88 = .ok (.isub, 1) := by decide +kernel
theorem dX10_tried_89 : decode cX10_tried 89 = .ok (.putfield 169, 3) := by decide +kernel
theorem dX10_tried_92 : decode cX10_tried 92 = .ok (.aload_n 0, 1) := by decide +kernel
theorem dX10_tried_93 : decode cX10_tried 93 = .ok (.invokevirtual 314, 3) := by decide +kernel
theorem dX10_tried_96 : decode cX10_tried 96 = .ok (.istore_n 3, 1) := by decide +kernel
theorem dX10_tried_97 : decode cX10_tried 97 = .ok (.aload_n 0, 1) := by decide +kernel
theorem dX10_tried_98 : decode cX10_tried 98 = .ok (.invokevirtual 289, 3) := by decide +kernel
theorem dX10_tried_101 : decode cX10_tried 101 = .ok (.iload_n 3, 1) := by decide +kernel
theorem dX10_tried_102 : decode cX10_tried 102 = .ok (.ireturn, 1) := by decide +kernel
set_option maxRecDepth 20000 in
theorem ggX10_loudest_X10_expWithout : GoodIn wsX10_loudest wsX10_expWithout := goodIn_r _ [6, 7, 8, 9, 5, 10, 11, 12, 13, 14, 15, 16, 17, 18, 19, 20, 21, 22, 23, 24, 25, 26, 27, 28, 29, 30, 31, 32, 33, 34, 35, 36, 37, 38, 39, 40, 41, 42, 43, 44, 45, 46, 47, 48, 49, 50, 51, 52, 53, 54, 55, 56, 57, 58, 59, 60, 61, 62, 63, 64, 65, 66, 67, 68, 69, 70, 71, 72, 73, 74, 75, 76, 77, 78, 79, 80, 81, 82, 83, 84, 85, 86, 87, 88, 89, 90, 91, 92, 93, 94, 95, 96, 97, 98, 99, 100, 101, 102, 103, 104, 105, 106, 107, 108, 109, 110, 111, 112, 113, 114, 115, 116, 117, 118, 119, 120, 121, 122, 123, 124, 125, 126, 127, 128, 129, 130, 131, 132, 133, 134, 135, 136, 137, 138, 139, 140, 141, 142, 143, 144, 145, 146, 147, 148, 149, 150, 151, 152, 153, 154, 155, 156, 157, 158, 159, 160, 161, 162, 163, 164, 165, 166, 167, 168, 169, 170, 171, 172, 173, 174, 175, 176, 177, 178, 179, 180, 181, 182, 183, 184, 185, 186, 187, 188, 189] (by decide +kernel) (by decide +kernel)
set_option maxRecDepth 20000 in
theorem gX10_loudest_X10_expWithout : GoodIn wsX10_loudest (wsV RX10 408 RX10 yX10_expWithout wsX10_expWithout) := goodIn_app (goodIn_of _ (by decide +kernel)) ggX10_loudest_X10_expWithout
set_option maxRecDepth 20000 in
theorem ggX10_loudest_X10_size : GoodIn wsX10_loudest wsX10_size := goodIn_r _ [73, 74, 153, 154, 155, 156, 157, 158, 159, 160, 161, 162, 163, 164, 165, 166, 167, 168, 169, 170, 171, 172, 173, 174, 175, 176, 177, 178, 179, 180, 181, 182, 183, 184, 185, 186, 187, 188, 189] (by decide +kernel) (by decide +kernel)
set_option maxRecDepth 20000 in
theorem gX10_loudest_X10_size : GoodIn wsX10_loudest (wsV RX10 196 RX10 yX10_size wsX10_size) := goodIn_app (goodIn_of _ (by decide +kernel)) ggX10_loudest_X10_size
theorem dX10_loudest_0 : decode cX10_loudest 0 = .ok (.aload_n 0, 1) := by decide +kernel
theorem dX10_loudest_1 : decode cX10_loudest 1 = .ok (.iconst 0, 1) := by decide +kernel
theorem dX10_loudest_2 : decode cX10_loudest 2 = .ok (.putfield 70, 3) := by decide +kernel
theorem dX10_loudest_5 : decode cX10_loudest 5 = .ok (.iconst 0, 1) := by decide +kernel
theorem dX10_loudest_6 : decode cX10_loudest 6 = .ok (.istore_n 1, 1) := by decide +kernel
theorem dX10_loudest_7 : decode cX10_loudest 7 = .ok (.aload_n 0, 1) := by decide +kernel
theorem dX10_loudest_8 : decode cX10_loudest 8 = .ok (.iconst 0, 1) := by decide +kernel
theorem dX10_loudest_9 : decode cX10_loudest 9 = .ok (.invokevirtual 408, 3) := by decide +kernel
theorem dX10_loudest_12 : decode cX10_loudest 12 = .ok (.istore_n 2, 1) := by decide +kernel
theorem dX10_loudest_13 : decode cX10_loudest 13 = .ok (.iconst 1, 1) := by decide +kernel
theorem dX10_loudest_14 : decode cX10_loudest 14 = .ok (.istore_n 3, 1) := by decide +kernel
theorem dX10_loudest_15 : decode cX10_loudest 15 = .ok (.iload_n 3, 1) := by decide +kernel
theorem dX10_loudest_16 : decode cX10_loudest 16 = .ok (.aload_n 0, 1) := by decide +kernel
theorem dX10_loudest_17 : decode cX10_loudest 17 = .ok (.invokevirtual 196, 3) := by decide +kernel
theorem dX10_loudest_20 : decode cX10_loudest 20 = .ok (.if_icmp .ge 41, 3) := by decide +kernel
theorem dX10_loudest_23 : decode cX10_loudest 23 = .ok (.aload_n 0, 1) := by decide +kernel
theorem dX10_loudest_24 : decode cX10_loudest 24 = .ok (.iload_n 3, 1) := by decide +kernel
theorem dX10_loudest_25 : decode cX10_loudest 25 = .ok (.invokevirtual 408, 3) := by decide +kernel
theorem dX10_loudest_28 : decode cX10_loudest 28 = .ok (.istore 4, 2) := by decide +kernel
theorem dX10_loudest_30 : decode cX10_loudest 30 = .ok (.iload 4, 2) := by decide +kernel
theorem dX10_loudest_32 : decode cX10_loudest 32 = .ok (.iload_n 2, 1) := by decide +kernel
theorem dX10_loudest_33 : decode cX10_loudest 33 = .ok (.if_icmp .ge 7, 3) := by decide +kernel
theorem dX10_loudest_36 : decode cX10_loudest 36 = .ok (.iload_n 3, 1) := by decide +kernel
theorem dX10_loudest_37 : decode cX10_loudest 37 = .ok (.goto 4, 3) := by decide +kernel
theorem dX10_loudest_40 : decode cX10_loudest 40 = .ok (.iload_n 1, 1) := by decide +kernel
theorem dX10_loudest_41 : decode cX10_loudest 41 = .ok (.istore_n 1, 1) := by decide +kernel
theorem dX10_loudest_42 : decode cX10_loudest 42 = .ok (.iload 4, 2) := by decide +kernel
theorem dX10_loudest_44 : decode cX10_loudest 44 = .ok (.iload_n 2, 1) := by decide +kernel
theorem dX10_loudest_45 : decode cX10_loudest 45 = .ok (.if_icmp .ge 8, 3) := by decide +kernel
theorem dX10_loudest_48 : decode cX10_loudest 48 = .ok (.iload 4, 2) := by decide +kernel
theorem dX10_loudest_50 : decode cX10_loudest 50 = .ok (.goto 4, 3) := by decide +kernel
theorem dX10_loudest_53 : decode cX10_loudest 53 = .ok (.iload_n 2, 1) := by decide +kernel
theorem dX10_loudest_54 : decode cX10_loudest 54 = .ok (.istore_n 2, 1) := by decide +kernel
theorem dX10_loudest_55 : decode cX10_loudest 55 = .ok (.iinc 3 1, 3) := by decide +kernel
theorem dX10_loudest_58 : decode cX10_loudest 58 = .ok (.goto (-43), 3) := by decide +kernel
theorem dX10_loudest_61 : decode cX10_loudest 61 = .ok (.iload_n 1, 1) := by decide +kernel
theorem dX10_loudest_62 : decode cX10_loudest 62 = .ok (.ireturn, 1) := by decide +kernel
set_option maxRecDepth 20000 in
theorem ggX10_undo_X10_copyBank : GoodIn wsX10_undo wsX10_copyBank := goodIn_r _ [7, 8, 9, 10, 11, 12, 13, 14, 15, 16, 17, 18, 19, 20, 21, 22, 23, 24, 25, 26, 27, 28, 29, 30, 31, 32, 33, 34, 35, 36, 37, 38, 39, 40, 41, 42, 43, 44, 45] (by decide +kernel) (by decide +kernel)
set_option maxRecDepth 20000 in
theorem gX10_undo_X10_copyBank : GoodIn wsX10_undo (wsV RX10 181 RX10 yX10_copyBank wsX10_copyBank) := goodIn_app (goodIn_of _ (by decide +kernel)) ggX10_undo_X10_copyBank
theorem dX10_undo_0 : decode cX10_undo 0 = .ok (.aload_n 0, 1) := by decide +kernel
theorem dX10_undo_1 : decode cX10_undo 1 = .ok (.iconst 0, 1) := by decide +kernel
theorem dX10_undo_2 : decode cX10_undo 2 = .ok (.putfield 70, 3) := by decide +kernel
theorem dX10_undo_5 : decode cX10_undo 5 = .ok (.aload_n 0, 1) := by decide +kernel
theorem dX10_undo_6 : decode cX10_undo 6 = .ok (.getfield 129, 3) := by decide +kernel
theorem dX10_undo_9 : decode cX10_undo 9 = .ok (.ifCond .ne 5, 3) := by decide +kernel
theorem dX10_undo_12 : decode cX10_undo 12 = .ok (.iconst (-1), 1) := by decide +kernel
theorem dX10_undo_13 : decode cX10_undo 13 = .ok (.ireturn, 1) := by decide +kernel
theorem dX10_undo_14 : decode cX10_undo 14 = .ok (.aload_n 0, 1) := by decide +kernel
theorem dX10_undo_15 : decode cX10_undo 15 = .ok (.dup, 1) := by decide +kernel
theorem dX10_undo_16 : decode cX10_undo 16 = .ok (.getfield 129, 3) := by decide +kernel
theorem dX10_undo_19 : decode cX10_undo 19 = .ok (.iconst 1, 1) := by decide +kernel
theorem dX10_undo_20 : decode cX10_undo 20 = .ok (.isub, 1) := by decide +kernel
theorem dX10_undo_21 : decode cX10_undo 21 = .ok (.putfield 129, 3) := by decide +kernel
theorem dX10_undo_24 : decode cX10_undo 24 = .ok (.aload_n 0, 1) := by decide +kernel
theorem dX10_undo_25 : decode cX10_undo 25 = .ok (.iconst 3, 1) := by decide +kernel
theorem dX10_undo_26 : decode cX10_undo 26 = .ok (.aload_n 0, 1) := by decide +kernel
theorem dX10_undo_27 : decode cX10_undo 27 = .ok (.getfield 129, 3) := by decide +kernel
theorem dX10_undo_30 : decode cX10_undo 30 = .ok (.iadd, 1) := by decide +kernel
theorem dX10_undo_31 : decode cX10_undo 31 = .ok (.iconst 0, 1) := by decide +kernel
theorem dX10_undo_32 : decode cX10_undo 32 = .ok (.invokevirtual 181, 3) := by decide +kernel
theorem dX10_undo_35 : decode cX10_undo 35 = .ok (.aload_n 0, 1) := by decide +kernel
theorem dX10_undo_36 : decode cX10_undo 36 = .ok (.getfield 129, 3) := by decide +kernel
theorem dX10_undo_39 : decode cX10_undo 39 = .ok (.ireturn, 1) := by decide +kernel
set_option maxRecDepth 20000 in
theorem ggX10_keep_X10_copyBank : GoodIn wsX10_keep wsX10_copyBank := goodIn_r _ [7, 8, 14, 15, 16, 17, 18, 19, 20, 21, 22, 23, 24, 25, 26, 27, 28, 29, 30, 31, 32, 33, 34, 35, 36, 37, 38, 39, 40, 41, 42, 43, 44, 45, 46, 47, 48, 49, 50] (by decide +kernel) (by decide +kernel)
set_option maxRecDepth 20000 in
theorem gX10_keep_X10_copyBank : GoodIn wsX10_keep (wsV RX10 181 RX10 yX10_copyBank wsX10_copyBank) := goodIn_app (goodIn_of _ (by decide +kernel)) ggX10_keep_X10_copyBank
set_option maxRecDepth 20000 in
theorem ggX10_keep_X10_of : GoodIn wsX10_keep wsX10_of := goodIn_r _ [12, 8, 13, 14, 15, 16, 17, 18, 19, 20, 21, 22, 23, 24, 25, 26, 27, 28, 29, 30, 31, 32, 33, 34, 35, 36, 37, 38, 39, 40, 41, 42, 43, 44, 45, 46, 47, 48, 49, 50] (by decide +kernel) (by decide +kernel)
set_option maxRecDepth 20000 in
theorem gX10_keep_X10_of : GoodIn wsX10_keep (wsV RX10 187 RX10 yX10_of wsX10_of) := goodIn_app (goodIn_of _ (by decide +kernel)) ggX10_keep_X10_of
theorem dX10_keep_0 : decode cX10_keep 0 = .ok (.aload_n 0, 1) := by decide +kernel
theorem dX10_keep_1 : decode cX10_keep 1 = .ok (.iconst 0, 1) := by decide +kernel
theorem dX10_keep_2 : decode cX10_keep 2 = .ok (.putfield 70, 3) := by decide +kernel
theorem dX10_keep_5 : decode cX10_keep 5 = .ok (.aload_n 0, 1) := by decide +kernel
theorem dX10_keep_6 : decode cX10_keep 6 = .ok (.iconst 0, 1) := by decide +kernel
theorem dX10_keep_7 : decode cX10_keep 7 = .ok (.iconst 2, 1) := by decide +kernel
theorem dX10_keep_8 : decode cX10_keep 8 = .ok (.invokevirtual 181, 3) := by decide +kernel
theorem dX10_keep_11 : decode cX10_keep 11 = .ok (.aload_n 0, 1) := by decide +kernel
theorem dX10_keep_12 : decode cX10_keep 12 = .ok (.iconst 1, 1) := by decide +kernel
theorem dX10_keep_13 : decode cX10_keep 13 = .ok (.putfield 125, 3) := by decide +kernel
theorem dX10_keep_16 : decode cX10_keep 16 = .ok (.aload_n 0, 1) := by decide +kernel
theorem dX10_keep_17 : decode cX10_keep 17 = .ok (.sipush 129, 3) := by decide +kernel
theorem dX10_keep_20 : decode cX10_keep 20 = .ok (.invokevirtual 187, 3) := by decide +kernel
theorem dX10_keep_23 : decode cX10_keep 23 = .ok (.ireturn, 1) := by decide +kernel
set_option maxRecDepth 20000 in
theorem ggX10_back_X10_copyBank : GoodIn wsX10_back wsX10_copyBank := goodIn_r _ [8, 9, 15, 16, 17, 18, 19, 20, 21, 22, 23, 24, 25, 26, 27, 28, 29, 30, 31, 32, 33, 34, 35, 36, 37, 38, 39, 40, 41, 42, 43, 44, 45, 46, 47, 48, 49, 50, 51] (by decide +kernel) (by decide +kernel)
set_option maxRecDepth 20000 in
theorem gX10_back_X10_copyBank : GoodIn wsX10_back (wsV RX10 181 RX10 yX10_copyBank wsX10_copyBank) := goodIn_app (goodIn_of _ (by decide +kernel)) ggX10_back_X10_copyBank
set_option maxRecDepth 20000 in
theorem ggX10_back_X10_of : GoodIn wsX10_back wsX10_of := goodIn_r _ [13, 9, 14, 15, 16, 17, 18, 19, 20, 21, 22, 23, 24, 25, 26, 27, 28, 29, 30, 31, 32, 33, 34, 35, 36, 37, 38, 39, 40, 41, 42, 43, 44, 45, 46, 47, 48, 49, 50, 51] (by decide +kernel) (by decide +kernel)
set_option maxRecDepth 20000 in
theorem gX10_back_X10_of : GoodIn wsX10_back (wsV RX10 187 RX10 yX10_of wsX10_of) := goodIn_app (goodIn_of _ (by decide +kernel)) ggX10_back_X10_of
theorem dX10_back_0 : decode cX10_back 0 = .ok (.aload_n 0, 1) := by decide +kernel
theorem dX10_back_1 : decode cX10_back 1 = .ok (.iconst 0, 1) := by decide +kernel
theorem dX10_back_2 : decode cX10_back 2 = .ok (.putfield 70, 3) := by decide +kernel
theorem dX10_back_5 : decode cX10_back 5 = .ok (.aload_n 0, 1) := by decide +kernel
theorem dX10_back_6 : decode cX10_back 6 = .ok (.getfield 125, 3) := by decide +kernel
theorem dX10_back_9 : decode cX10_back 9 = .ok (.ifCond .ne 5, 3) := by decide +kernel
theorem dX10_back_12 : decode cX10_back 12 = .ok (.iconst (-1), 1) := by decide +kernel
theorem dX10_back_13 : decode cX10_back 13 = .ok (.ireturn, 1) := by decide +kernel
theorem dX10_back_14 : decode cX10_back 14 = .ok (.aload_n 0, 1) := by decide +kernel
theorem dX10_back_15 : decode cX10_back 15 = .ok (.iconst 2, 1) := by decide +kernel
theorem dX10_back_16 : decode cX10_back 16 = .ok (.iconst 0, 1) := by decide +kernel
theorem dX10_back_17 : decode cX10_back 17 = .ok (.invokevirtual 181, 3) := by decide +kernel
theorem dX10_back_20 : decode cX10_back 20 = .ok (.aload_n 0, 1) := by decide +kernel
theorem dX10_back_21 : decode cX10_back 21 = .ok (.iconst 0, 1) := by decide +kernel
theorem dX10_back_22 : decode cX10_back 22 = .ok (.putfield 129, 3) := by decide +kernel
theorem dX10_back_25 : decode cX10_back 25 = .ok (.aload_n 0, 1) := by decide +kernel
theorem dX10_back_26 : decode cX10_back 26 = .ok (.sipush 129, 3) := by decide +kernel
theorem dX10_back_29 : decode cX10_back 29 = .ok (.invokevirtual 187, 3) := by decide +kernel
theorem dX10_back_32 : decode cX10_back 32 = .ok (.ireturn, 1) := by decide +kernel
set_option maxRecDepth 20000 in
theorem ggX10_count_X10_stagesMany : GoodIn wsX10_count wsX10_stagesMany := goodIn_r _ [11, 12, 13, 14, 15, 10, 16, 17, 29, 30, 31, 32, 33, 34, 35, 36, 37, 38, 39, 40, 41, 42, 43, 44, 45, 46, 47, 48, 49, 50, 51, 52, 53, 54, 55, 56, 57, 58, 59, 60, 61, 62, 63, 64, 65] (by decide +kernel) (by decide +kernel)
set_option maxRecDepth 20000 in
theorem gX10_count_X10_stagesMany : GoodIn wsX10_count (wsV RX10 216 RX10 yX10_stagesMany wsX10_stagesMany) := goodIn_app (goodIn_of _ (by decide +kernel)) ggX10_count_X10_stagesMany
set_option maxRecDepth 20000 in
theorem ggX10_count_X10_of : GoodIn wsX10_count wsX10_of := goodIn_r _ [21, 22, 23, 29, 30, 31, 32, 33, 34, 35, 36, 37, 38, 39, 40, 41, 42, 43, 44, 45, 46, 47, 48, 49, 50, 51, 52, 53, 54, 55, 56, 57, 58, 59, 60, 61, 62, 63, 64, 65] (by decide +kernel) (by decide +kernel)
set_option maxRecDepth 20000 in
theorem gX10_count_X10_of : GoodIn wsX10_count (wsV RX10 187 RX10 yX10_of wsX10_of) := goodIn_app (goodIn_of _ (by decide +kernel)) ggX10_count_X10_of
set_option maxRecDepth 20000 in
theorem ggX10_count_X10_knownBy : GoodIn wsX10_count wsX10_knownBy := goodIn_r _ [27, 28, 4, 29, 30, 31, 32, 33, 34, 35, 36, 37, 38, 39, 40, 41, 42, 43, 44, 45, 46, 47, 48, 49, 50, 51, 52, 53, 54, 55, 56, 57, 58, 59, 60, 61, 62, 63, 64, 65] (by decide +kernel) (by decide +kernel)
set_option maxRecDepth 20000 in
theorem gX10_count_X10_knownBy : GoodIn wsX10_count (wsV RX10 375 RX10 yX10_knownBy wsX10_knownBy) := goodIn_app (goodIn_of _ (by decide +kernel)) ggX10_count_X10_knownBy
theorem dX10_count_0 : decode cX10_count 0 = .ok (.aload_n 0, 1) := by decide +kernel
theorem dX10_count_1 : decode cX10_count 1 = .ok (.iconst 0, 1) := by decide +kernel
theorem dX10_count_2 : decode cX10_count 2 = .ok (.putfield 70, 3) := by decide +kernel
theorem dX10_count_5 : decode cX10_count 5 = .ok (.iload_n 1, 1) := by decide +kernel
theorem dX10_count_6 : decode cX10_count 6 = .ok (.tableswitch 122 0 12 #[66, 66, 66, 66, 66, 73, 78, 86, 94, 102, 107, 112, 117], 66) := by decide +kernel
theorem dX10_count_72 : decode cX10_count 72 = .ok (.aload_n 0, 1) := by decide +kernel
theorem dX10_count_73 : decode cX10_count 73 = .ok (.getfield 20, 3) := by decide +kernel
theorem dX10_count_76 : decode cX10_count 76 = .ok (.iload_n 1, 1) := by decide +kernel
theorem dX10_count_77 : decode cX10_count 77 = .ok (.iaload, 1) := by decide +kernel
theorem dX10_count_78 : decode cX10_count 78 = .ok (.ireturn, 1) := by decide +kernel
theorem dX10_count_79 : decode cX10_count 79 = .ok (.aload_n 0, 1) := by decide +kernel
theorem dX10_count_80 : decode cX10_count 80 = .ok (.invokevirtual 216, 3) := by decide +kernel
theorem dX10_count_83 : decode cX10_count 83 = .ok (.ireturn, 1) := by decide +kernel
theorem dX10_count_84 : decode cX10_count 84 = .ok (.aload_n 0, 1) := by decide +kernel
theorem dX10_count_85 : decode cX10_count 85 = .ok (.sipush 129, 3) := by decide +kernel
theorem dX10_count_88 : decode cX10_count 88 = .ok (.invokevirtual 187, 3) := by decide +kernel
theorem dX10_count_91 : decode cX10_count 91 = .ok (.ireturn, 1) := by decide +kernel
theorem dX10_count_92 : decode cX10_count 92 = .ok (.aload_n 0, 1) := by decide +kernel
theorem dX10_count_93 : decode cX10_count 93 = .ok (.sipush 130, 3) := by decide +kernel
theorem dX10_count_96 : decode cX10_count 96 = .ok (.invokevirtual 187, 3) := by decide +kernel
theorem dX10_count_99 : decode cX10_count 99 = .ok (.ireturn, 1) := by decide +kernel
theorem dX10_count_100 : decode cX10_count 100 = .ok (.aload_n 0, 1) := by decide +kernel
theorem dX10_count_101 : decode cX10_count 101 = .ok (.sipush 128, 3) := by decide +kernel
theorem dX10_count_104 : decode cX10_count 104 = .ok (.invokevirtual 187, 3) := by decide +kernel
theorem dX10_count_107 : decode cX10_count 107 = .ok (.ireturn, 1) := by decide +kernel
theorem dX10_count_108 : decode cX10_count 108 = .ok (.aload_n 0, 1) := by decide +kernel
theorem dX10_count_109 : decode cX10_count 109 = .ok (.getfield 175, 3) := by decide +kernel
theorem dX10_count_112 : decode cX10_count 112 = .ok (.ireturn, 1) := by decide +kernel
theorem dX10_count_113 : decode cX10_count 113 = .ok (.aload_n 0, 1) := by decide +kernel
theorem dX10_count_114 : decode cX10_count 114 = .ok (.getfield 132, 3) := by decide +kernel
theorem dX10_count_117 : decode cX10_count 117 = .ok (.ireturn, 1) := by decide +kernel
theorem dX10_count_118 : decode cX10_count 118 = .ok (.aload_n 0, 1) := by decide +kernel
theorem dX10_count_119 : decode cX10_count 119 = .ok (.invokevirtual 375, 3) := by decide +kernel
theorem dX10_count_122 : decode cX10_count 122 = .ok (.ireturn, 1) := by decide +kernel
theorem dX10_count_123 : decode cX10_count 123 = .ok (.aload_n 0, 1) := by decide +kernel
theorem dX10_count_124 : decode cX10_count 124 = .ok (.getfield 129, 3) := by decide +kernel
theorem dX10_count_127 : decode cX10_count 127 = .ok (.ireturn, 1) := by decide +kernel
theorem dX10_count_128 : decode cX10_count 128 = .ok (.ldc 206, 2) := by decide +kernel
theorem dX10_count_130 : decode cX10_count 130 = .ok (.ireturn, 1) := by decide +kernel
