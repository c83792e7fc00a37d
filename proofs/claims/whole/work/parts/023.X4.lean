set_option maxRecDepth 20000 in
theorem ggX4_init_X8_init : GoodIn wsX4_init wsX8_init := goodIn_r _ [15, 16, 2, 3, 8, 17, 18, 19, 20, 6, 21, 22, 23, 24, 25, 26, 27, 28, 29, 30, 31, 32, 33, 34, 35, 36, 37, 38, 39, 40, 41, 42, 43, 44, 45, 46, 47, 48, 49, 50, 51, 52, 53, 54, 55, 56] (by decide +kernel) (by decide +kernel)
set_option maxRecDepth 20000 in
theorem gX4_init_X8_init : GoodIn wsX4_init (wsX8_init) := ggX4_init_X8_init
theorem dX4_init_0 : decode cX4_init 0 = .ok (.aload_n 0, 1) := by decide +kernel
theorem dX4_init_1 : decode cX4_init 1 = .ok (.invokespecial 3, 3) := by decide +kernel
theorem dX4_init_4 : decode cX4_init 4 = .ok (.aload_n 0, 1) := by decide +kernel
theorem dX4_init_5 : decode cX4_init 5 = .ok (.new 9, 3) := by decide +kernel
theorem dX4_init_8 : decode cX4_init 8 = .ok (.dup, 1) := by decide +kernel
theorem dX4_init_9 : decode cX4_init 9 = .ok (.invokespecial 11, 3) := by decide +kernel
theorem dX4_init_12 : decode cX4_init 12 = .ok (.putfield 12, 3) := by decide +kernel
theorem dX4_init_15 : decode cX4_init 15 = .ok (.aload_n 0, 1) := by decide +kernel
theorem dX4_init_16 : decode cX4_init 16 = .ok (.bipush 32, 2) := by decide +kernel
theorem dX4_init_18 : decode cX4_init 18 = .ok (.newarray .int, 2) := by decide +kernel
theorem dX4_init_20 : decode cX4_init 20 = .ok (.putfield 18, 3) := by decide +kernel
theorem dX4_init_23 : decode cX4_init 23 = .ok (.aload_n 0, 1) := by decide +kernel
theorem dX4_init_24 : decode cX4_init 24 = .ok (.bipush 32, 2) := by decide +kernel
theorem dX4_init_26 : decode cX4_init 26 = .ok (.newarray .int, 2) := by decide +kernel
theorem dX4_init_28 : decode cX4_init 28 = .ok (.putfield 22, 3) := by decide +kernel
theorem dX4_init_31 : decode cX4_init 31 = .ok (.aload_n 0, 1) := by decide +kernel
theorem dX4_init_32 : decode cX4_init 32 = .ok (.iconst 0, 1) := by decide +kernel
theorem dX4_init_33 : decode cX4_init 33 = .ok (.putfield 25, 3) := by decide +kernel
theorem dX4_init_36 : decode cX4_init 36 = .ok (.aload_n 0, 1) := by decide +kernel
theorem dX4_init_37 : decode cX4_init 37 = .ok (.iconst (-1), 1) := by decide +kernel
theorem dX4_init_38 : decode cX4_init 38 = .ok (.putfield 29, 3) := by decide +kernel
theorem dX4_init_41 : decode cX4_init 41 = .ok (.return_, 1) := by decide +kernel
set_option maxRecDepth 20000 in
theorem ggX4_readAll_X4_begin : GoodIn wsX4_readAll wsX4_begin := goodIn_r _ [6, 7, 8, 9, 10, 11, 12, 13, 14, 15, 16, 17, 18, 19, 20, 21, 22, 23, 24, 25, 26, 27, 28, 29, 30, 31, 32, 33, 34, 35, 36, 37, 38, 39, 40, 41, 42, 43, 44, 45, 46, 47, 155, 156, 157, 158, 159, 160, 161, 162, 163, 164, 165, 166, 167, 168, 169, 170, 171, 172, 173, 174, 175, 176, 177] (by decide +kernel) (by decide +kernel)
set_option maxRecDepth 20000 in
theorem gX4_readAll_X4_begin : GoodIn wsX4_readAll (wsV RX4 32 RX4 yX4_begin wsX4_begin) := goodIn_app (goodIn_of _ (by decide +kernel)) ggX4_readAll_X4_begin
set_option maxRecDepth 20000 in
theorem ggX4_readAll_X4_nextToken : GoodIn wsX4_readAll wsX4_nextToken := goodIn_r _ [51, 16, 15, 52, 1, 53, 54, 5, 55, 56, 57, 58, 59, 60, 61, 62, 63, 64, 65, 66, 67, 68, 155, 156, 157, 158, 159, 160, 161, 162, 163, 164, 165, 166, 167] (by decide +kernel) (by decide +kernel)
set_option maxRecDepth 20000 in
theorem gX4_readAll_X4_nextToken : GoodIn wsX4_readAll (wsV RX4 36 RX4 yX4_nextToken wsX4_nextToken) := goodIn_app (goodIn_of _ (by decide +kernel)) ggX4_readAll_X4_nextToken
set_option maxRecDepth 20000 in
theorem ggX4_readAll_X4_readLine : GoodIn wsX4_readAll wsX4_readLine := goodIn_r _ [72, 1, 13, 14, 73, 74, 75, 5, 76, 77, 78, 79, 80, 16, 52, 81, 82, 83, 84, 85, 86, 87, 88, 89, 90, 91, 92, 93, 94, 95, 96, 97, 98, 99, 100, 101, 102, 103, 104, 105, 106, 107, 108, 109, 110, 111, 112, 113, 114, 115, 116, 117, 118, 119, 120, 121, 122, 123, 124, 125, 10, 11, 126, 127, 128, 129, 12, 48, 49, 50, 51, 15, 53, 54, 55, 56, 57, 58, 59, 60, 61, 62, 63, 64, 65, 66, 67, 68, 130, 131, 132, 133, 134, 135, 136, 137, 138, 7, 139, 140, 141, 142, 143, 25, 26, 20, 27, 28, 29, 144, 31, 32, 33, 34, 35, 145, 146, 147, 148, 149, 150, 151, 152, 153, 154, 9, 8, 155, 156, 157, 158, 159, 160, 161, 162, 163, 164, 165, 166, 167, 168, 169, 170, 171, 172, 173, 174, 175, 176, 177] (by decide +kernel) (by decide +kernel)
set_option maxRecDepth 20000 in
theorem gX4_readAll_X4_readLine : GoodIn wsX4_readAll (wsV RX4 43 RX4 yX4_readLine wsX4_readLine) := goodIn_app (goodIn_of _ (by decide +kernel)) ggX4_readAll_X4_readLine
theorem dX4_readAll_0 : decode cX4_readAll 0 = .ok (.aload_n 0, 1) := by decide +kernel
theorem dX4_readAll_1 : decode cX4_readAll 1 = .ok (.iload_n 2, 1) := by decide +kernel
theorem dX4_readAll_2 : decode cX4_readAll 2 = .ok (.invokevirtual 32, 3) := by decide +kernel
theorem dX4_readAll_5 : decode cX4_readAll 5 = .ok (.iconst 0, 1) := by decide +kernel
theorem dX4_readAll_6 : decode cX4_readAll 6 = .ok (.istore_n 3, 1) := by decide +kernel
theorem dX4_readAll_7 : decode cX4_readAll 7 = .ok (.aload_n 0, 1) := by decide +kernel
theorem dX4_readAll_8 : decode cX4_readAll 8 = .ok (.aload_n 1, 1) := by decide +kernel
theorem dX4_readAll_9 : decode cX4_readAll 9 = .ok (.invokevirtual 36, 3) := by decide +kernel
theorem dX4_readAll_12 : decode cX4_readAll 12 = .ok (.iload_n 3, 1) := by decide +kernel
theorem dX4_readAll_13 : decode cX4_readAll 13 = .ok (.sipush 700, 3) := by decide +kernel
theorem dX4_readAll_16 : decode cX4_readAll 16 = .ok (.if_icmp .ge 31, 3) := by decide +kernel
theorem dX4_readAll_19 : decode cX4_readAll 19 = .ok (.aload_n 0, 1) := by decide +kernel
theorem dX4_readAll_20 : decode cX4_readAll 20 = .ok (.getfield 40, 3) := by decide +kernel
theorem dX4_readAll_23 : decode cX4_readAll 23 = .ok (.ifCond .eq 24, 3) := by decide +kernel
theorem dX4_readAll_26 : decode cX4_readAll 26 = .ok (.aload_n 0, 1) := by decide +kernel
theorem dX4_readAll_27 : decode cX4_readAll 27 = .ok (.aload_n 1, 1) := by decide +kernel
theorem dX4_readAll_28 : decode cX4_readAll 28 = .ok (.invokevirtual 43, 3) := by decide +kernel
theorem dX4_readAll_31 : decode cX4_readAll 31 = .ok (.ifCond .ne 5, 3) := by decide +kernel
theorem dX4_readAll_34 : decode cX4_readAll 34 = .ok (.iconst (-1), 1) := by decide +kernel
theorem dX4_readAll_35 : decode cX4_readAll 35 = .ok (.ireturn, 1) := by decide +kernel
theorem dX4_readAll_36 : decode cX4_readAll 36 = .ok (.iinc 3 1, 3) := by decide +kernel
theorem dX4_readAll_39 : decode cX4_readAll 39 = .ok (.aload_n 0, 1) := by decide +kernel
theorem dX4_readAll_40 : decode cX4_readAll 40 = .ok (.aload_n 1, 1) := by decide +kernel
theorem dX4_readAll_41 : decode cX4_readAll 41 = .ok (.invokevirtual 36, 3) := by decide +kernel
theorem dX4_readAll_44 : decode cX4_readAll 44 = .ok (.goto (-32), 3) := by decide +kernel
theorem dX4_readAll_47 : decode cX4_readAll 47 = .ok (.iload_n 3, 1) := by decide +kernel
theorem dX4_readAll_48 : decode cX4_readAll 48 = .ok (.ireturn, 1) := by decide +kernel
set_option maxRecDepth 20000 in
theorem ggX4_begin_X8_takeDefaults : GoodIn wsX4_begin wsX8_takeDefaults := goodIn_r _ [15, 16, 17, 18, 19, 20, 14, 21, 22, 23, 24, 25, 26, 27, 28, 29, 30, 31, 32, 33, 34, 35, 36, 37, 38, 39, 40, 41, 55, 56, 57, 58, 59, 60, 61, 62, 63, 64] (by decide +kernel) (by decide +kernel)
set_option maxRecDepth 20000 in
theorem gX4_begin_X8_takeDefaults : GoodIn wsX4_begin (wsV RX4 47 RX8 yX8_takeDefaults wsX8_takeDefaults) := goodIn_app (goodIn_of _ (by decide +kernel)) ggX4_begin_X8_takeDefaults
theorem dX4_begin_0 : decode cX4_begin 0 = .ok (.aload_n 0, 1) := by decide +kernel
theorem dX4_begin_1 : decode cX4_begin 1 = .ok (.getfield 12, 3) := by decide +kernel
theorem dX4_begin_4 : decode cX4_begin 4 = .ok (.invokevirtual 47, 3) := by decide +kernel
theorem dX4_begin_7 : decode cX4_begin 7 = .ok (.iconst 0, 1) := by decide +kernel
theorem dX4_begin_8 : decode cX4_begin 8 = .ok (.istore_n 2, 1) := by decide +kernel
theorem dX4_begin_9 : decode cX4_begin 9 = .ok (.iload_n 2, 1) := by decide +kernel
theorem dX4_begin_10 : decode cX4_begin 10 = .ok (.bipush 32, 2) := by decide +kernel
theorem dX4_begin_12 : decode cX4_begin 12 = .ok (.if_icmp .ge 23, 3) := by decide +kernel
theorem dX4_begin_15 : decode cX4_begin 15 = .ok (.aload_n 0, 1) := by decide +kernel
theorem dX4_begin_16 : decode cX4_begin 16 = .ok (.getfield 18, 3) := by decide +kernel
theorem dX4_begin_19 : decode cX4_begin 19 = .ok (.iload_n 2, 1) := by decide +kernel
theorem dX4_begin_20 : decode cX4_begin 20 = .ok (.iconst 0, 1) := by decide +kernel
theorem dX4_begin_21 : decode cX4_begin 21 = .ok (.iastore, 1) := by decide +kernel
theorem dX4_begin_22 : decode cX4_begin 22 = .ok (.aload_n 0, 1) := by decide +kernel
theorem dX4_begin_23 : decode cX4_begin 23 = .ok (.getfield 22, 3) := by decide +kernel
theorem dX4_begin_26 : decode cX4_begin 26 = .ok (.iload_n 2, 1) := by decide +kernel
theorem dX4_begin_27 : decode cX4_begin 27 = .ok (.iconst 0, 1) := by decide +kernel
theorem dX4_begin_28 : decode cX4_begin 28 = .ok (.iastore, 1) := by decide +kernel
theorem dX4_begin_29 : decode cX4_begin 29 = .ok (.iinc 2 1, 3) := by decide +kernel
theorem dX4_begin_32 : decode cX4_begin 32 = .ok (.goto (-23), 3) := by decide +kernel
theorem dX4_begin_35 : decode cX4_begin 35 = .ok (.aload_n 0, 1) := by decide +kernel
theorem dX4_begin_36 : decode cX4_begin 36 = .ok (.iconst 0, 1) := by decide +kernel
theorem dX4_begin_37 : decode cX4_begin 37 = .ok (.putfield 25, 3) := by decide +kernel
theorem dX4_begin_40 : decode cX4_begin 40 = .ok (.aload_n 0, 1) := by decide +kernel
theorem dX4_begin_41 : decode cX4_begin 41 = .ok (.iconst (-1), 1) := by decide +kernel
theorem dX4_begin_42 : decode cX4_begin 42 = .ok (.putfield 29, 3) := by decide +kernel
theorem dX4_begin_45 : decode cX4_begin 45 = .ok (.aload_n 0, 1) := by decide +kernel
theorem dX4_begin_46 : decode cX4_begin 46 = .ok (.iconst 0, 1) := by decide +kernel
theorem dX4_begin_47 : decode cX4_begin 47 = .ok (.putfield 50, 3) := by decide +kernel
theorem dX4_begin_50 : decode cX4_begin 50 = .ok (.aload_n 0, 1) := by decide +kernel
theorem dX4_begin_51 : decode cX4_begin 51 = .ok (.iconst 0, 1) := by decide +kernel
theorem dX4_begin_52 : decode cX4_begin 52 = .ok (.putfield 53, 3) := by decide +kernel
theorem dX4_begin_55 : decode cX4_begin 55 = .ok (.aload_n 0, 1) := by decide +kernel
theorem dX4_begin_56 : decode cX4_begin 56 = .ok (.iconst 0, 1) := by decide +kernel
theorem dX4_begin_57 : decode cX4_begin 57 = .ok (.putfield 56, 3) := by decide +kernel
theorem dX4_begin_60 : decode cX4_begin 60 = .ok (.aload_n 0, 1) := by decide +kernel
theorem dX4_begin_61 : decode cX4_begin 61 = .ok (.iload_n 1, 1) := by decide +kernel
theorem dX4_begin_62 : decode cX4_begin 62 = .ok (.putfield 59, 3) := by decide +kernel
theorem dX4_begin_65 : decode cX4_begin 65 = .ok (.aload_n 0, 1) := by decide +kernel
theorem dX4_begin_66 : decode cX4_begin 66 = .ok (.iconst 0, 1) := by decide +kernel
theorem dX4_begin_67 : decode cX4_begin 67 = .ok (.putfield 62, 3) := by decide +kernel
theorem dX4_begin_70 : decode cX4_begin 70 = .ok (.return_, 1) := by decide +kernel
theorem dX4_failAtToken_0 : decode cX4_failAtToken 0 = .ok (.aload_n 0, 1) := by decide +kernel
theorem dX4_failAtToken_1 : decode cX4_failAtToken 1 = .ok (.iload_n 1, 1) := by decide +kernel
theorem dX4_failAtToken_2 : decode cX4_failAtToken 2 = .ok (.putfield 25, 3) := by decide +kernel
theorem dX4_failAtToken_5 : decode cX4_failAtToken 5 = .ok (.aload_n 0, 1) := by decide +kernel
theorem dX4_failAtToken_6 : decode cX4_failAtToken 6 = .ok (.aload_n 0, 1) := by decide +kernel
theorem dX4_failAtToken_7 : decode cX4_failAtToken 7 = .ok (.getfield 65, 3) := by decide +kernel
theorem dX4_failAtToken_10 : decode cX4_failAtToken 10 = .ok (.putfield 29, 3) := by decide +kernel
theorem dX4_failAtToken_13 : decode cX4_failAtToken 13 = .ok (.iconst 0, 1) := by decide +kernel
theorem dX4_failAtToken_14 : decode cX4_failAtToken 14 = .ok (.ireturn, 1) := by decide +kernel
set_option maxRecDepth 20000 in
theorem ggX4_readLine_X4_wordHere : GoodIn wsX4_readLine wsX4_wordHere := goodIn_r _ [8, 9, 10, 11, 7, 12, 13, 14, 15, 16, 17, 18, 19, 20, 21, 22, 23, 24, 25, 26, 27, 28, 29, 30, 31, 32, 33, 34, 35, 36, 37, 38, 39, 40, 41, 42, 43, 44, 45, 46, 47, 48, 49, 50, 51, 52, 53, 54, 55, 127, 128, 129, 130, 131, 132, 133, 134, 135, 136, 137, 138, 139] (by decide +kernel) (by decide +kernel)
set_option maxRecDepth 20000 in
theorem gX4_readLine_X4_wordHere : GoodIn wsX4_readLine (wsV RX4 68 RX4 yX4_wordHere wsX4_wordHere) := goodIn_app (goodIn_of _ (by decide +kernel)) ggX4_readLine_X4_wordHere
set_option maxRecDepth 20000 in
theorem ggX4_readLine_X4_failAtToken : GoodIn wsX4_readLine wsX4_failAtToken := goodIn_r _ [59, 60, 14, 61, 127, 128, 129, 130, 131, 132, 133, 134, 135, 136, 137, 138, 139] (by decide +kernel) (by decide +kernel)
set_option maxRecDepth 20000 in
theorem gX4_readLine_X4_failAtToken : GoodIn wsX4_readLine (wsV RX4 72 RX4 yX4_failAtToken wsX4_failAtToken) := goodIn_app (goodIn_of _ (by decide +kernel)) ggX4_readLine_X4_failAtToken
set_option maxRecDepth 20000 in
theorem ggX4_readLine_X4_readSetting : GoodIn wsX4_readLine wsX4_readSetting := goodIn_r _ [65, 66, 1, 56, 57, 58, 7, 59, 60, 14, 61, 67, 68, 69, 70, 13, 71, 72, 73, 74, 75, 76, 77, 78, 79, 80, 81, 82, 83, 84, 85, 86, 87, 88, 89, 90, 91, 92, 93, 94, 95, 96, 97, 98, 99, 100, 101, 102, 103, 104, 105, 106, 107, 108, 109, 110, 111, 112, 113, 114, 127, 128, 129, 130, 131, 132, 133, 134, 135, 136, 137, 138, 139, 140, 141, 142, 143, 144, 145, 146, 147, 148, 149] (by decide +kernel) (by decide +kernel)
set_option maxRecDepth 20000 in
theorem gX4_readLine_X4_readSetting : GoodIn wsX4_readLine (wsV RX4 76 RX4 yX4_readSetting wsX4_readSetting) := goodIn_app (goodIn_of _ (by decide +kernel)) ggX4_readLine_X4_readSetting
set_option maxRecDepth 20000 in
theorem ggX4_readLine_X4_readPoint : GoodIn wsX4_readLine wsX4_readPoint := goodIn_r _ [118, 1, 82, 97, 119, 3, 2, 120, 67, 68, 69, 7, 70, 13, 71, 14, 72, 73, 74, 75, 76, 77, 78, 79, 80, 81, 83, 84, 85, 86, 87, 56, 57, 58, 59, 60, 61, 121, 122, 123, 124, 125, 126, 127, 128, 129, 130, 131, 132, 133, 134, 135, 136, 137, 138, 139, 140, 141, 142, 143, 144, 145, 146, 147, 148, 149] (by decide +kernel) (by decide +kernel)
set_option maxRecDepth 20000 in
theorem gX4_readLine_X4_readPoint : GoodIn wsX4_readLine (wsV RX4 80 RX4 yX4_readPoint wsX4_readPoint) := goodIn_app (goodIn_of _ (by decide +kernel)) ggX4_readLine_X4_readPoint
set_option maxRecDepth 20000 in
theorem ggX4_readLine_X4_nextToken : GoodIn wsX4_readLine wsX4_nextToken := goodIn_r _ [70, 13, 71, 14, 1, 72, 73, 7, 74, 75, 76, 77, 78, 79, 80, 81, 82, 83, 84, 85, 86, 87, 127, 128, 129, 130, 131, 132, 133, 134, 135, 136, 137, 138, 139] (by decide +kernel) (by decide +kernel)
set_option maxRecDepth 20000 in
theorem gX4_readLine_X4_nextToken : GoodIn wsX4_readLine (wsV RX4 36 RX4 yX4_nextToken wsX4_nextToken) := goodIn_app (goodIn_of _ (by decide +kernel)) ggX4_readLine_X4_nextToken
theorem dX4_readLine_0 : decode cX4_readLine 0 = .ok (.aload_n 0, 1) := by decide +kernel
theorem dX4_readLine_1 : decode cX4_readLine 1 = .ok (.getfield 40, 3) := by decide +kernel
theorem dX4_readLine_4 : decode cX4_readLine 4 = .ok (.iconst 1, 1) := by decide +kernel
theorem dX4_readLine_5 : decode cX4_readLine 5 = .ok (.if_icmp .ne 11, 3) := by decide +kernel
theorem dX4_readLine_8 : decode cX4_readLine 8 = .ok (.aload_n 0, 1) := by decide +kernel
theorem dX4_readLine_9 : decode cX4_readLine 9 = .ok (.aload_n 1, 1) := by decide +kernel
theorem dX4_readLine_10 : decode cX4_readLine 10 = .ok (.invokevirtual 68, 3) := by decide +kernel
theorem dX4_readLine_13 : decode cX4_readLine 13 = .ok (.goto 4, 3) := by decide +kernel
theorem dX4_readLine_16 : decode cX4_readLine 16 = .ok (.iconst (-1), 1) := by decide +kernel
theorem dX4_readLine_17 : decode cX4_readLine 17 = .ok (.istore_n 2, 1) := by decide +kernel
theorem dX4_readLine_18 : decode cX4_readLine 18 = .ok (.aload_n 0, 1) := by decide +kernel
theorem dX4_readLine_19 : decode cX4_readLine 19 = .ok (.getfield 53, 3) := by decide +kernel
theorem dX4_readLine_22 : decode cX4_readLine 22 = .ok (.aload_n 0, 1) := by decide +kernel
theorem dX4_readLine_23 : decode cX4_readLine 23 = .ok (.getfield 56, 3) := by decide +kernel
theorem dX4_readLine_26 : decode cX4_readLine 26 = .ok (.ior, 1) := by decide +kernel
theorem dX4_readLine_27 : decode cX4_readLine 27 = .ok (.ifCond .eq 7, 3) := by decide +kernel
theorem dX4_readLine_30 : decode cX4_readLine 30 = .ok (.iconst 1, 1) := by decide +kernel
theorem dX4_readLine_31 : decode cX4_readLine 31 = .ok (.goto 4, 3) := by decide +kernel
theorem dX4_readLine_34 : decode cX4_readLine 34 = .ok (.iconst 0, 1) := by decide +kernel
theorem dX4_readLine_35 : decode cX4_readLine 35 = .ok (.istore_n 3, 1) := by decide +kernel
theorem dX4_readLine_36 : decode cX4_readLine 36 = .ok (.iload_n 2, 1) := by decide +kernel
theorem dX4_readLine_37 : decode cX4_readLine 37 = .ok (.iconst (-1), 1) := by decide +kernel
theorem dX4_readLine_38 : decode cX4_readLine 38 = .ok (.if_icmp .eq 16, 3) := by decide +kernel
theorem dX4_readLine_41 : decode cX4_readLine 41 = .ok (.iload_n 3, 1) := by decide +kernel
theorem dX4_readLine_42 : decode cX4_readLine 42 = .ok (.ifCond .eq 18, 3) := by decide +kernel
theorem dX4_readLine_45 : decode cX4_readLine 45 = .ok (.iload_n 2, 1) := by decide +kernel
theorem dX4_readLine_46 : decode cX4_readLine 46 = .ok (.ifCond .eq 8, 3) := by decide +kernel
theorem dX4_readLine_49 : decode cX4_readLine 49 = .ok (.iload_n 2, 1) := by decide +kernel
theorem dX4_readLine_50 : decode cX4_readLine 50 = .ok (.iconst 1, 1) := by decide +kernel
theorem dX4_readLine_51 : decode cX4_readLine 51 = .ok (.if_icmp .ne 9, 3) := by decide +kernel
theorem dX4_readLine_54 : decode cX4_readLine 54 = .ok (.aload_n 0, 1) := by decide +kernel
theorem dX4_readLine_55 : decode cX4_readLine 55 = .ok (.iconst 1, 1) := by decide +kernel
theorem dX4_readLine_56 : decode cX4_readLine 56 = .ok (.invokevirtual 72, 3) := by decide +kernel
theorem dX4_readLine_59 : decode cX4_readLine 59 = .ok (.ireturn, 1) := by decide +kernel
theorem dX4_readLine_60 : decode cX4_readLine 60 = .ok (.iload_n 2, 1) := by decide +kernel
theorem dX4_readLine_61 : decode cX4_readLine 61 = .ok (.iconst 5, 1) := by decide +kernel
theorem dX4_readLine_62 : decode cX4_readLine 62 = .ok (.if_icmp .gt 12, 3) := by decide +kernel
theorem dX4_readLine_65 : decode cX4_readLine 65 = .ok (.aload_n 0, 1) := by decide +kernel
theorem dX4_readLine_66 : decode cX4_readLine 66 = .ok (.aload_n 1, 1) := by decide +kernel
theorem dX4_readLine_67 : decode cX4_readLine 67 = .ok (.iload_n 2, 1) := by decide +kernel
theorem dX4_readLine_68 : decode cX4_readLine 68 = .ok (.invokevirtual 76, 3) := by decide +kernel
theorem dX4_readLine_71 : decode cX4_readLine 71 = .ok (.goto 9, 3) := by decide +kernel
theorem dX4_readLine_74 : decode cX4_readLine 74 = .ok (.aload_n 0, 1) := by decide +kernel
theorem dX4_readLine_75 : decode cX4_readLine 75 = .ok (.aload_n 1, 1) := by decide +kernel
theorem dX4_readLine_76 : decode cX4_readLine 76 = .ok (.iload_n 2, 1) := by decide +kernel
theorem dX4_readLine_77 : decode cX4_readLine 77 = .ok (.invokevirtual 80, 3) := by decide +kernel
theorem dX4_readLine_80 : decode cX4_readLine 80 = .ok (.istore 4, 2) := by decide +kernel
theorem dX4_readLine_82 : decode cX4_readLine 82 = .ok (.iload 4, 2) := by decide +kernel
theorem dX4_readLine_84 : decode cX4_readLine 84 = .ok (.ifCond .ne 5, 3) := by decide +kernel
theorem dX4_readLine_87 : decode cX4_readLine 87 = .ok (.iconst 0, 1) := by decide +kernel
theorem dX4_readLine_88 : decode cX4_readLine 88 = .ok (.ireturn, 1) := by decide +kernel
theorem dX4_readLine_89 : decode cX4_readLine 89 = .ok (.aload_n 0, 1) := by decide +kernel
theorem dX4_readLine_90 : decode cX4_readLine 90 = .ok (.aload_n 1, 1) := by decide +kernel
theorem dX4_readLine_91 : decode cX4_readLine 91 = .ok (.invokevirtual 36, 3) := by decide +kernel
theorem dX4_readLine_94 : decode cX4_readLine 94 = .ok (.aload_n 0, 1) := by decide +kernel
theorem dX4_readLine_95 : decode cX4_readLine 95 = .ok (.getfield 40, 3) := by decide +kernel
theorem dX4_readLine_98 : decode cX4_readLine 98 = .ok (.iconst 3, 1) := by decide +kernel
theorem dX4_readLine_99 : decode cX4_readLine 99 = .ok (.if_icmp .eq 11, 3) := by decide +kernel
theorem dX4_readLine_102 : decode cX4_readLine 102 = .ok (.aload_n 0, 1) := by decide +kernel
theorem dX4_readLine_103 : decode cX4_readLine 103 = .ok (.iconst 1, 1) := by decide +kernel
theorem dX4_readLine_104 : decode cX4_readLine 104 = .ok (.invokevirtual 72, 3) := by decide +kernel
theorem dX4_readLine_107 : decode cX4_readLine 107 = .ok (.ifCond .eq 7, 3) := by decide +kernel
theorem dX4_readLine_110 : decode cX4_readLine 110 = .ok (.iconst 1, 1) := by decide +kernel
theorem dX4_readLine_111 : decode cX4_readLine 111 = .ok (.goto 4, 3) := by decide +kernel
theorem dX4_readLine_114 : decode cX4_readLine 114 = .ok (.iconst 0, 1) := by decide +kernel
theorem dX4_readLine_115 : decode cX4_readLine 115 = .ok (.ireturn, 1) := by decide +kernel
set_option maxRecDepth 20000 in
theorem ggX4_readSetting_X4_failAtToken : GoodIn wsX4_readSetting wsX4_failAtToken := goodIn_r _ [7, 8, 9, 10, 60, 61, 62, 63, 64, 65, 66, 67, 68, 69, 70, 71, 72] (by decide +kernel) (by decide +kernel)
set_option maxRecDepth 20000 in
theorem gX4_readSetting_X4_failAtToken : GoodIn wsX4_readSetting (wsV RX4 72 RX4 yX4_failAtToken wsX4_failAtToken) := goodIn_app (goodIn_of _ (by decide +kernel)) ggX4_readSetting_X4_failAtToken
set_option maxRecDepth 20000 in
theorem ggX4_readSetting_X4_nextToken : GoodIn wsX4_readSetting wsX4_nextToken := goodIn_r _ [14, 15, 16, 9, 2, 17, 18, 6, 19, 20, 21, 22, 23, 24, 25, 26, 27, 28, 29, 30, 31, 32, 60, 61, 62, 63, 64, 65, 66, 67, 68, 69, 70, 71, 72] (by decide +kernel) (by decide +kernel)
set_option maxRecDepth 20000 in
theorem gX4_readSetting_X4_nextToken : GoodIn wsX4_readSetting (wsV RX4 36 RX4 yX4_nextToken wsX4_nextToken) := goodIn_app (goodIn_of _ (by decide +kernel)) ggX4_readSetting_X4_nextToken
set_option maxRecDepth 20000 in
theorem ggX4_readSetting_X4_isSetting : GoodIn wsX4_readSetting wsX4_isSetting := goodIn_r _ [36, 27, 37, 60, 61, 62, 63, 64, 65, 66, 67, 68, 69, 70, 71, 72] (by decide +kernel) (by decide +kernel)
set_option maxRecDepth 20000 in
theorem gX4_readSetting_X4_isSetting : GoodIn wsX4_readSetting (wsV RX4 83 RX4 yX4_isSetting wsX4_isSetting) := goodIn_app (goodIn_of _ (by decide +kernel)) ggX4_readSetting_X4_isSetting
set_option maxRecDepth 20000 in
theorem ggX4_readSetting_X4_takeSetting : GoodIn wsX4_readSetting wsX4_takeSetting := goodIn_r _ [41, 42, 27, 43, 44, 45, 46, 47, 48, 49, 50, 51, 52, 53, 54, 55, 56, 57, 58, 59, 60, 61, 62, 63, 64, 65, 66, 67, 68, 69, 70, 71, 72, 73, 74, 75, 76, 77, 78, 79, 80, 81, 82] (by decide +kernel) (by decide +kernel)
set_option maxRecDepth 20000 in
theorem gX4_readSetting_X4_takeSetting : GoodIn wsX4_readSetting (wsV RX4 86 RX4 yX4_takeSetting wsX4_takeSetting) := goodIn_app (goodIn_of _ (by decide +kernel)) ggX4_readSetting_X4_takeSetting
theorem dX4_readSetting_0 : decode cX4_readSetting 0 = .ok (.aload_n 0, 1) := by decide +kernel
theorem dX4_readSetting_1 : decode cX4_readSetting 1 = .ok (.getfield 50, 3) := by decide +kernel
theorem dX4_readSetting_4 : decode cX4_readSetting 4 = .ok (.iload_n 2, 1) := by decide +kernel
theorem dX4_readSetting_5 : decode cX4_readSetting 5 = .ok (.ishr, 1) := by decide +kernel
theorem dX4_readSetting_6 : decode cX4_readSetting 6 = .ok (.iconst 1, 1) := by decide +kernel
theorem dX4_readSetting_7 : decode cX4_readSetting 7 = .ok (.iand, 1) := by decide +kernel
theorem dX4_readSetting_8 : decode cX4_readSetting 8 = .ok (.iconst 1, 1) := by decide +kernel
theorem dX4_readSetting_9 : decode cX4_readSetting 9 = .ok (.if_icmp .ne 9, 3) := by decide +kernel
theorem dX4_readSetting_12 : decode cX4_readSetting 12 = .ok (.aload_n 0, 1) := by decide +kernel
theorem dX4_readSetting_13 : decode cX4_readSetting 13 = .ok (.iconst 3, 1) := by decide +kernel
theorem dX4_readSetting_14 : decode cX4_readSetting 14 = .ok (.invokevirtual 72, 3) := by decide +kernel
theorem dX4_readSetting_17 : decode cX4_readSetting 17 = .ok (.ireturn, 1) := by decide +kernel
theorem dX4_readSetting_18 : decode cX4_readSetting 18 = .ok (.aload_n 0, 1) := by decide +kernel
theorem dX4_readSetting_19 : decode cX4_readSetting 19 = .ok (.dup, 1) := by decide +kernel
theorem dX4_readSetting_20 : decode cX4_readSetting 20 = .ok (.getfield 50, 3) := by decide +kernel
theorem dX4_readSetting_23 : decode cX4_readSetting 23 = .ok (.iconst 1, 1) := by decide +kernel
theorem dX4_readSetting_24 : decode cX4_readSetting 24 = .ok (.iload_n 2, 1) := by decide +kernel
theorem dX4_readSetting_25 : decode cX4_readSetting 25 = .ok (.ishl, 1) := by decide +kernel
theorem dX4_readSetting_26 : decode cX4_readSetting 26 = .ok (.ior, 1) := by decide +kernel
theorem dX4_readSetting_27 : decode cX4_readSetting 27 = .ok (.putfield 50, 3) := by decide +kernel
theorem dX4_readSetting_30 : decode cX4_readSetting 30 = .ok (.aload_n 0, 1) := by decide +kernel
theorem dX4_readSetting_31 : decode cX4_readSetting 31 = .ok (.aload_n 1, 1) := by decide +kernel
theorem dX4_readSetting_32 : decode cX4_readSetting 32 = .ok (.invokevirtual 36, 3) := by decide +kernel
theorem dX4_readSetting_35 : decode cX4_readSetting 35 = .ok (.aload_n 0, 1) := by decide +kernel
theorem dX4_readSetting_36 : decode cX4_readSetting 36 = .ok (.getfield 40, 3) := by decide +kernel
theorem dX4_readSetting_39 : decode cX4_readSetting 39 = .ok (.iconst 2, 1) := by decide +kernel
theorem dX4_readSetting_40 : decode cX4_readSetting 40 = .ok (.if_icmp .eq 9, 3) := by decide +kernel
theorem dX4_readSetting_43 : decode cX4_readSetting 43 = .ok (.aload_n 0, 1) := by decide +kernel
theorem dX4_readSetting_44 : decode cX4_readSetting 44 = .ok (.iconst 1, 1) := by decide +kernel
theorem dX4_readSetting_45 : decode cX4_readSetting 45 = .ok (.invokevirtual 72, 3) := by decide +kernel
theorem dX4_readSetting_48 : decode cX4_readSetting 48 = .ok (.ireturn, 1) := by decide +kernel
theorem dX4_readSetting_49 : decode cX4_readSetting 49 = .ok (.aload_n 0, 1) := by decide +kernel
theorem dX4_readSetting_50 : decode cX4_readSetting 50 = .ok (.iload_n 2, 1) := by decide +kernel
theorem dX4_readSetting_51 : decode cX4_readSetting 51 = .ok (.invokevirtual 83, 3) := by decide +kernel
theorem dX4_readSetting_54 : decode cX4_readSetting 54 = .ok (.ifCond .ne 9, 3) := by decide +kernel
theorem dX4_readSetting_57 : decode cX4_readSetting 57 = .ok (.aload_n 0, 1) := by decide +kernel
theorem dX4_readSetting_58 : decode cX4_readSetting 58 = .ok (.iconst 2, 1) := by decide +kernel
theorem dX4_readSetting_59 : decode cX4_readSetting 59 = .ok (.invokevirtual 72, 3) := by decide +kernel
theorem dX4_readSetting_62 : decode cX4_readSetting 62 = .ok (.ireturn, 1) := by decide +kernel
theorem dX4_readSetting_63 : decode cX4_readSetting 63 = .ok (.aload_n 0, 1) := by decide +kernel
theorem dX4_readSetting_64 : decode cX4_readSetting 64 = .ok (.iload_n 2, 1) := by decide +kernel
theorem dX4_readSetting_65 : decode cX4_readSetting 65 = .ok (.invokevirtual 86, 3) := by decide +kernel
theorem dX4_readSetting_68 : decode cX4_readSetting 68 = .ok (.iconst 1, 1) := by decide +kernel
theorem dX4_readSetting_69 : decode cX4_readSetting 69 = .ok (.ireturn, 1) := by decide +kernel
theorem dX4_isSetting_0 : decode cX4_isSetting 0 = .ok (.iload_n 1, 1) := by decide +kernel
theorem dX4_isSetting_1 : decode cX4_isSetting 1 = .ok (.tableswitch 144 0 4 #[35, 84, 108, 130, 130], 35) := by decide +kernel
theorem dX4_isSetting_36 : decode cX4_isSetting 36 = .ok (.aload_n 0, 1) := by decide +kernel
theorem dX4_isSetting_37 : decode cX4_isSetting 37 = .ok (.getfield 89, 3) := by decide +kernel
theorem dX4_isSetting_40 : decode cX4_isSetting 40 = .ok (.iconst 2, 1) := by decide +kernel
theorem dX4_isSetting_41 : decode cX4_isSetting 41 = .ok (.if_icmp .eq 38, 3) := by decide +kernel
theorem dX4_isSetting_44 : decode cX4_isSetting 44 = .ok (.aload_n 0, 1) := by decide +kernel
theorem dX4_isSetting_45 : decode cX4_isSetting 45 = .ok (.getfield 89, 3) := by decide +kernel
theorem dX4_isSetting_48 : decode cX4_isSetting 48 = .ok (.iconst 4, 1) := by decide +kernel
theorem dX4_isSetting_49 : decode cX4_isSetting 49 = .ok (.if_icmp .eq 30, 3) := by decide +kernel
theorem dX4_isSetting_52 : decode cX4_isSetting 52 = .ok (.aload_n 0, 1) := by decide +kernel
theorem dX4_isSetting_53 : decode cX4_isSetting 53 = .ok (.getfield 89, 3) := by decide +kernel
theorem dX4_isSetting_56 : decode cX4_isSetting 56 = .ok (.bipush 8, 2) := by decide +kernel
theorem dX4_isSetting_58 : decode cX4_isSetting 58 = .ok (.if_icmp .eq 21, 3) := by decide +kernel
theorem dX4_isSetting_61 : decode cX4_isSetting 61 = .ok (.aload_n 0, 1) := by decide +kernel
theorem dX4_isSetting_62 : decode cX4_isSetting 62 = .ok (.getfield 89, 3) := by decide +kernel
theorem dX4_isSetting_65 : decode cX4_isSetting 65 = .ok (.bipush 16, 2) := by decide +kernel
theorem dX4_isSetting_67 : decode cX4_isSetting 67 = .ok (.if_icmp .eq 12, 3) := by decide +kernel
theorem dX4_isSetting_70 : decode cX4_isSetting 70 = .ok (.aload_n 0, 1) := by decide +kernel
theorem dX4_isSetting_71 : decode cX4_isSetting 71 = .ok (.getfield 89, 3) := by decide +kernel
theorem dX4_isSetting_74 : decode cX4_isSetting 74 = .ok (.bipush 32, 2) := by decide +kernel
theorem dX4_isSetting_76 : decode cX4_isSetting 76 = .ok (.if_icmp .ne 7, 3) := by decide +kernel
theorem dX4_isSetting_79 : decode cX4_isSetting 79 = .ok (.iconst 1, 1) := by decide +kernel
theorem dX4_isSetting_80 : decode cX4_isSetting 80 = .ok (.goto 4, 3) := by decide +kernel
theorem dX4_isSetting_83 : decode cX4_isSetting 83 = .ok (.iconst 0, 1) := by decide +kernel
theorem dX4_isSetting_84 : decode cX4_isSetting 84 = .ok (.ireturn, 1) := by decide +kernel
theorem dX4_isSetting_85 : decode cX4_isSetting 85 = .ok (.aload_n 0, 1) := by decide +kernel
theorem dX4_isSetting_86 : decode cX4_isSetting 86 = .ok (.getfield 89, 3) := by decide +kernel
theorem dX4_isSetting_89 : decode cX4_isSetting 89 = .ok (.bipush 8, 2) := by decide +kernel
theorem dX4_isSetting_91 : decode cX4_isSetting 91 = .ok (.if_icmp .lt 16, 3) := by decide +kernel
theorem dX4_isSetting_94 : decode cX4_isSetting 94 = .ok (.aload_n 0, 1) := by decide +kernel
theorem dX4_isSetting_95 : decode cX4_isSetting 95 = .ok (.getfield 89, 3) := by decide +kernel
theorem dX4_isSetting_98 : decode cX4_isSetting 98 = .ok (.bipush 16, 2) := by decide +kernel
theorem dX4_isSetting_100 : decode cX4_isSetting 100 = .ok (.if_icmp .gt 7, 3) := by decide +kernel
theorem dX4_isSetting_103 : decode cX4_isSetting 103 = .ok (.iconst 1, 1) := by decide +kernel
theorem dX4_isSetting_104 : decode cX4_isSetting 104 = .ok (.goto 4, 3) := by decide +kernel
theorem dX4_isSetting_107 : decode cX4_isSetting 107 = .ok (.iconst 0, 1) := by decide +kernel
theorem dX4_isSetting_108 : decode cX4_isSetting 108 = .ok (.ireturn, 1) := by decide +kernel
theorem dX4_isSetting_109 : decode cX4_isSetting 109 = .ok (.aload_n 0, 1) := by decide +kernel
theorem dX4_isSetting_110 : decode cX4_isSetting 110 = .ok (.getfield 89, 3) := by decide +kernel
theorem dX4_isSetting_113 : decode cX4_isSetting 113 = .ok (.iconst 2, 1) := by decide +kernel
theorem dX4_isSetting_114 : decode cX4_isSetting 114 = .ok (.if_icmp .eq 11, 3) := by decide +kernel
theorem dX4_isSetting_117 : decode cX4_isSetting 117 = .ok (.aload_n 0, 1) := by decide +kernel
theorem dX4_isSetting_118 : decode cX4_isSetting 118 = .ok (.getfield 89, 3) := by decide +kernel
theorem dX4_isSetting_121 : decode cX4_isSetting 121 = .ok (.iconst 4, 1) := by decide +kernel
theorem dX4_isSetting_122 : decode cX4_isSetting 122 = .ok (.if_icmp .ne 7, 3) := by decide +kernel
theorem dX4_isSetting_125 : decode cX4_isSetting 125 = .ok (.iconst 1, 1) := by decide +kernel
theorem dX4_isSetting_126 : decode cX4_isSetting 126 = .ok (.goto 4, 3) := by decide +kernel
theorem dX4_isSetting_129 : decode cX4_isSetting 129 = .ok (.iconst 0, 1) := by decide +kernel
theorem dX4_isSetting_130 : decode cX4_isSetting 130 = .ok (.ireturn, 1) := by decide +kernel
theorem dX4_isSetting_131 : decode cX4_isSetting 131 = .ok (.aload_n 0, 1) := by decide +kernel
theorem dX4_isSetting_132 : decode cX4_isSetting 132 = .ok (.getfield 89, 3) := by decide +kernel
theorem dX4_isSetting_135 : decode cX4_isSetting 135 = .ok (.iconst 1, 1) := by decide +kernel
theorem dX4_isSetting_136 : decode cX4_isSetting 136 = .ok (.if_icmp .gt 7, 3) := by decide +kernel
theorem dX4_isSetting_139 : decode cX4_isSetting 139 = .ok (.iconst 1, 1) := by decide +kernel
theorem dX4_isSetting_140 : decode cX4_isSetting 140 = .ok (.goto 4, 3) := by decide +kernel
theorem dX4_isSetting_143 : decode cX4_isSetting 143 = .ok (.iconst 0, 1) := by decide +kernel
theorem dX4_isSetting_144 : decode cX4_isSetting 144 = .ok (.ireturn, 1) := by decide +kernel
theorem dX4_isSetting_145 : decode cX4_isSetting 145 = .ok (.aload_n 0, 1) := by decide +kernel
theorem dX4_isSetting_146 : decode cX4_isSetting 146 = .ok (.getfield 89, 3) := by decide +kernel
theorem dX4_isSetting_149 : decode cX4_isSetting 149 = .ok (.ldc 92, 2) := by decide +kernel
theorem dX4_isSetting_151 : decode cX4_isSetting 151 = .ok (.if_icmp .gt 7, 3) := by decide +kernel
theorem dX4_isSetting_154 : decode cX4_isSetting 154 = .ok (.iconst 1, 1) := by decide +kernel
theorem dX4_isSetting_155 : decode cX4_isSetting 155 = .ok (.goto 4, 3) := by decide +kernel
theorem dX4_isSetting_158 : decode cX4_isSetting 158 = .ok (.iconst 0, 1) := by decide +kernel
theorem dX4_isSetting_159 : decode cX4_isSetting 159 = .ok (.ireturn, 1) := by decide +kernel
set_option maxRecDepth 20000 in
theorem ggX4_takeSetting_X8_takeSize : GoodIn wsX4_takeSetting wsX8_takeSize := goodIn_r _ [11, 12, 13, 33, 34, 35, 36, 37, 38, 39, 40, 41, 42] (by decide +kernel) (by decide +kernel)
set_option maxRecDepth 20000 in
theorem gX4_takeSetting_X8_takeSize : GoodIn wsX4_takeSetting (wsV RX4 93 RX8 yX8_takeSize wsX8_takeSize) := goodIn_app (goodIn_of _ (by decide +kernel)) ggX4_takeSetting_X8_takeSize
set_option maxRecDepth 20000 in
theorem ggX4_takeSetting_X8_takeBits : GoodIn wsX4_takeSetting wsX8_takeBits := goodIn_r _ [17, 18, 19, 33, 34, 35, 36, 37, 38, 39, 40, 41, 42] (by decide +kernel) (by decide +kernel)
set_option maxRecDepth 20000 in
theorem gX4_takeSetting_X8_takeBits : GoodIn wsX4_takeSetting (wsV RX4 96 RX8 yX8_takeBits wsX8_takeBits) := goodIn_app (goodIn_of _ (by decide +kernel)) ggX4_takeSetting_X8_takeBits
theorem dX4_takeSetting_0 : decode cX4_takeSetting 0 = .ok (.iload_n 1, 1) := by decide +kernel
theorem dX4_takeSetting_1 : decode cX4_takeSetting 1 = .ok (.tableswitch 105 0 4 #[35, 49, 63, 77, 91], 35) := by decide +kernel
theorem dX4_takeSetting_36 : decode cX4_takeSetting 36 = .ok (.aload_n 0, 1) := by decide +kernel
theorem dX4_takeSetting_37 : decode cX4_takeSetting 37 = .ok (.getfield 12, 3) := by decide +kernel
theorem dX4_takeSetting_40 : decode cX4_takeSetting 40 = .ok (.aload_n 0, 1) := by decide +kernel
theorem dX4_takeSetting_41 : decode cX4_takeSetting 41 = .ok (.getfield 89, 3) := by decide +kernel
theorem dX4_takeSetting_44 : decode cX4_takeSetting 44 = .ok (.invokevirtual 93, 3) := by decide +kernel
theorem dX4_takeSetting_47 : decode cX4_takeSetting 47 = .ok (.goto 70, 3) := by decide +kernel
theorem dX4_takeSetting_50 : decode cX4_takeSetting 50 = .ok (.aload_n 0, 1) := by decide +kernel
theorem dX4_takeSetting_51 : decode cX4_takeSetting 51 = .ok (.getfield 12, 3) := by decide +kernel
theorem dX4_takeSetting_54 : decode cX4_takeSetting 54 = .ok (.aload_n 0, 1) := by decide +kernel
theorem dX4_takeSetting_55 : decode cX4_takeSetting 55 = .ok (.getfield 89, 3) := by decide +kernel
theorem dX4_takeSetting_58 : decode cX4_takeSetting 58 = .ok (.invokevirtual 96, 3) := by decide +kernel
theorem dX4_takeSetting_61 : decode cX4_takeSetting 61 = .ok (.goto 56, 3) := by decide +kernel
theorem dX4_takeSetting_64 : decode cX4_takeSetting 64 = .ok (.aload_n 0, 1) := by decide +kernel
theorem dX4_takeSetting_65 : decode cX4_takeSetting 65 = .ok (.getfield 12, 3) := by decide +kernel
theorem dX4_takeSetting_68 : decode cX4_takeSetting 68 = .ok (.aload_n 0, 1) := by decide +kernel
theorem dX4_takeSetting_69 : decode cX4_takeSetting 69 = .ok (.getfield 89, 3) := by decide +kernel
theorem dX4_takeSetting_72 : decode cX4_takeSetting 72 = .ok (.putfield 99, 3) := by decide +kernel
theorem dX4_takeSetting_75 : decode cX4_takeSetting 75 = .ok (.goto 42, 3) := by decide +kernel
theorem dX4_takeSetting_78 : decode cX4_takeSetting 78 = .ok (.aload_n 0, 1) := by decide +kernel
theorem dX4_takeSetting_79 : decode cX4_takeSetting 79 = .ok (.getfield 12, 3) := by decide +kernel
theorem dX4_takeSetting_82 : decode cX4_takeSetting 82 = .ok (.aload_n 0, 1) := by decide +kernel
theorem dX4_takeSetting_83 : decode cX4_takeSetting 83 = .ok (.getfield 89, 3) := by decide +kernel
theorem dX4_takeSetting_86 : decode cX4_takeSetting 86 = .ok (.putfield 102, 3) := by decide +kernel
theorem dX4_takeSetting_89 : decode cX4_takeSetting 89 = .ok (.goto 28, 3) := by decide +kernel
theorem dX4_takeSetting_92 : decode cX4_takeSetting 92 = .ok (.aload_n 0, 1) := by decide +kernel
theorem dX4_takeSetting_93 : decode cX4_takeSetting 93 = .ok (.getfield 12, 3) := by decide +kernel
theorem dX4_takeSetting_96 : decode cX4_takeSetting 96 = .ok (.aload_n 0, 1) := by decide +kernel
theorem dX4_takeSetting_97 : decode cX4_takeSetting 97 = .ok (.getfield 89, 3) := by decide +kernel
theorem dX4_takeSetting_100 : decode cX4_takeSetting 100 = .ok (.putfield 105, 3) := by decide +kernel
theorem dX4_takeSetting_103 : decode cX4_takeSetting 103 = .ok (.goto 14, 3) := by decide +kernel
theorem dX4_takeSetting_106 : decode cX4_takeSetting 106 = .ok (.aload_n 0, 1) := by decide +kernel
theorem dX4_takeSetting_107 : decode cX4_takeSetting 107 = .ok (.getfield 12, 3) := by decide +kernel
theorem dX4_takeSetting_110 : decode cX4_takeSetting 110 = .ok (.aload_n 0, 1) := by decide +kernel
theorem dX4_takeSetting_111 : decode cX4_takeSetting 111 = .ok (.getfield 89, 3) := by decide +kernel
theorem dX4_takeSetting_114 : decode cX4_takeSetting 114 = .ok (.putfield 108, 3) := by decide +kernel
theorem dX4_takeSetting_117 : decode cX4_takeSetting 117 = .ok (.return_, 1) := by decide +kernel
set_option maxRecDepth 20000 in
theorem ggX4_readPoint_X4_nextToken : GoodIn wsX4_readPoint wsX4_nextToken := goodIn_r _ [12, 13, 14, 15, 1, 16, 17, 11, 18, 19, 20, 21, 22, 23, 24, 25, 2, 26, 27, 28, 29, 30, 43, 44, 45, 46, 47, 48, 49, 50, 51, 52, 53, 54, 55] (by decide +kernel) (by decide +kernel)
set_option maxRecDepth 20000 in
theorem gX4_readPoint_X4_nextToken : GoodIn wsX4_readPoint (wsV RX4 36 RX4 yX4_nextToken wsX4_nextToken) := goodIn_app (goodIn_of _ (by decide +kernel)) ggX4_readPoint_X4_nextToken
set_option maxRecDepth 20000 in
theorem ggX4_readPoint_X4_failAtToken : GoodIn wsX4_readPoint wsX4_failAtToken := goodIn_r _ [34, 35, 15, 36, 43, 44, 45, 46, 47, 48, 49, 50, 51, 52, 53, 54, 55] (by decide +kernel) (by decide +kernel)
set_option maxRecDepth 20000 in
theorem gX4_readPoint_X4_failAtToken : GoodIn wsX4_readPoint (wsV RX4 72 RX4 yX4_failAtToken wsX4_failAtToken) := goodIn_app (goodIn_of _ (by decide +kernel)) ggX4_readPoint_X4_failAtToken
set_option maxRecDepth 20000 in
theorem ggX4_readPoint_X4_takePoint : GoodIn wsX4_readPoint wsX4_takePoint := goodIn_r _ [40, 41, 5, 42, 6, 43, 44, 45, 46, 47, 48, 49, 50, 51, 52, 53, 54, 55] (by decide +kernel) (by decide +kernel)
set_option maxRecDepth 20000 in
theorem gX4_readPoint_X4_takePoint : GoodIn wsX4_readPoint (wsV RX4 117 RX4 yX4_takePoint wsX4_takePoint) := goodIn_app (goodIn_of _ (by decide +kernel)) ggX4_readPoint_X4_takePoint
theorem dX4_readPoint_0 : decode cX4_readPoint 0 = .ok (.iload_n 2, 1) := by decide +kernel
theorem dX4_readPoint_1 : decode cX4_readPoint 1 = .ok (.bipush 8, 2) := by decide +kernel
theorem dX4_readPoint_3 : decode cX4_readPoint 3 = .ok (.if_icmp .lt 7, 3) := by decide +kernel
theorem dX4_readPoint_6 : decode cX4_readPoint 6 = .ok (.iconst 1, 1) := by decide +kernel
theorem dX4_readPoint_7 : decode cX4_readPoint 7 = .ok (.goto 4, 3) := by decide +kernel
theorem dX4_readPoint_10 : decode cX4_readPoint 10 = .ok (.iconst 0, 1) := by decide +kernel
theorem dX4_readPoint_11 : decode cX4_readPoint 11 = .ok (.istore_n 3, 1) := by decide +kernel
theorem dX4_readPoint_12 : decode cX4_readPoint 12 = .ok (.aload_n 0, 1) := by decide +kernel
theorem dX4_readPoint_13 : decode cX4_readPoint 13 = .ok (.aload_n 1, 1) := by decide +kernel
theorem dX4_readPoint_14 : decode cX4_readPoint 14 = .ok (.invokevirtual 36, 3) := by decide +kernel
theorem dX4_readPoint_17 : decode cX4_readPoint 17 = .ok (.aload_n 0, 1) := by decide +kernel
theorem dX4_readPoint_18 : decode cX4_readPoint 18 = .ok (.getfield 40, 3) := by decide +kernel
theorem dX4_readPoint_21 : decode cX4_readPoint 21 = .ok (.iconst 2, 1) := by decide +kernel
theorem dX4_readPoint_22 : decode cX4_readPoint 22 = .ok (.if_icmp .eq 9, 3) := by decide +kernel
theorem dX4_readPoint_25 : decode cX4_readPoint 25 = .ok (.aload_n 0, 1) := by decide +kernel
theorem dX4_readPoint_26 : decode cX4_readPoint 26 = .ok (.iconst 1, 1) := by decide +kernel
theorem dX4_readPoint_27 : decode cX4_readPoint 27 = .ok (.invokevirtual 72, 3) := by decide +kernel
theorem dX4_readPoint_30 : decode cX4_readPoint 30 = .ok (.ireturn, 1) := by decide +kernel
theorem dX4_readPoint_31 : decode cX4_readPoint 31 = .ok (.aload_n 0, 1) := by decide +kernel
theorem dX4_readPoint_32 : decode cX4_readPoint 32 = .ok (.getfield 89, 3) := by decide +kernel
theorem dX4_readPoint_35 : decode cX4_readPoint 35 = .ok (.aload_n 0, 1) := by decide +kernel
theorem dX4_readPoint_36 : decode cX4_readPoint 36 = .ok (.getfield 12, 3) := by decide +kernel
theorem dX4_readPoint_39 : decode cX4_readPoint 39 = .ok (.getfield 111, 3) := by decide +kernel
theorem dX4_readPoint_42 : decode cX4_readPoint 42 = .ok (.if_icmp .lt 9, 3) := by decide +kernel
theorem dX4_readPoint_45 : decode cX4_readPoint 45 = .ok (.aload_n 0, 1) := by decide +kernel
theorem dX4_readPoint_46 : decode cX4_readPoint 46 = .ok (.iconst 2, 1) := by decide +kernel
theorem dX4_readPoint_47 : decode cX4_readPoint 47 = .ok (.invokevirtual 72, 3) := by decide +kernel
theorem dX4_readPoint_50 : decode cX4_readPoint 50 = .ok (.ireturn, 1) := by decide +kernel
theorem dX4_readPoint_51 : decode cX4_readPoint 51 = .ok (.aload_n 0, 1) := by decide +kernel
theorem dX4_readPoint_52 : decode cX4_readPoint 52 = .ok (.getfield 89, 3) := by decide +kernel
theorem dX4_readPoint_55 : decode cX4_readPoint 55 = .ok (.istore 4, 2) := by decide +kernel
theorem dX4_readPoint_57 : decode cX4_readPoint 57 = .ok (.iload_n 3, 1) := by decide +kernel
theorem dX4_readPoint_58 : decode cX4_readPoint 58 = .ok (.ifCond .eq 10, 3) := by decide +kernel
theorem dX4_readPoint_61 : decode cX4_readPoint 61 = .ok (.aload_n 0, 1) := by decide +kernel
theorem dX4_readPoint_62 : decode cX4_readPoint 62 = .ok (.getfield 56, 3) := by decide +kernel
theorem dX4_readPoint_65 : decode cX4_readPoint 65 = .ok (.goto 7, 3) := by decide +kernel
theorem dX4_readPoint_68 : decode cX4_readPoint 68 = .ok (.aload_n 0, 1) := by decide +kernel
theorem dX4_readPoint_69 : decode cX4_readPoint 69 = .ok (.getfield 53, 3) := by decide +kernel
theorem dX4_readPoint_72 : decode cX4_readPoint 72 = .ok (.iload 4, 2) := by decide +kernel
theorem dX4_readPoint_74 : decode cX4_readPoint 74 = .ok (.ishr, 1) := by decide +kernel
theorem dX4_readPoint_75 : decode cX4_readPoint 75 = .ok (.iconst 1, 1) := by decide +kernel
theorem dX4_readPoint_76 : decode cX4_readPoint 76 = .ok (.iand, 1) := by decide +kernel
theorem dX4_readPoint_77 : decode cX4_readPoint 77 = .ok (.iconst 1, 1) := by decide +kernel
theorem dX4_readPoint_78 : decode cX4_readPoint 78 = .ok (.if_icmp .ne 9, 3) := by decide +kernel
theorem dX4_readPoint_81 : decode cX4_readPoint 81 = .ok (.aload_n 0, 1) := by decide +kernel
theorem dX4_readPoint_82 : decode cX4_readPoint 82 = .ok (.iconst 3, 1) := by decide +kernel
theorem dX4_readPoint_83 : decode cX4_readPoint 83 = .ok (.invokevirtual 72, 3) := by decide +kernel
theorem dX4_readPoint_86 : decode cX4_readPoint 86 = .ok (.ireturn, 1) := by decide +kernel
theorem dX4_readPoint_87 : decode cX4_readPoint 87 = .ok (.aload_n 0, 1) := by decide +kernel
theorem dX4_readPoint_88 : decode cX4_readPoint 88 = .ok (.aload_n 1, 1) := by decide +kernel
theorem dX4_readPoint_89 : decode cX4_readPoint 89 = .ok (.invokevirtual 36, 3) := by decide +kernel
theorem dX4_readPoint_92 : decode cX4_readPoint 92 = .ok (.aload_n 0, 1) := by decide +kernel
theorem dX4_readPoint_93 : decode cX4_readPoint 93 = .ok (.getfield 40, 3) := by decide +kernel
theorem dX4_readPoint_96 : decode cX4_readPoint 96 = .ok (.iconst 2, 1) := by decide +kernel
theorem dX4_readPoint_97 : decode cX4_readPoint 97 = .ok (.if_icmp .eq 9, 3) := by decide +kernel
theorem dX4_readPoint_100 : decode cX4_readPoint 100 = .ok (.aload_n 0, 1) := by decide +kernel
theorem dX4_readPoint_101 : decode cX4_readPoint 101 = .ok (.iconst 1, 1) := by decide +kernel
theorem dX4_readPoint_102 : decode cX4_readPoint 102 = .ok (.invokevirtual 72, 3) := by decide +kernel
theorem dX4_readPoint_105 : decode cX4_readPoint 105 = .ok (.ireturn, 1) := by decide +kernel
theorem dX4_readPoint_106 : decode cX4_readPoint 106 = .ok (.aload_n 0, 1) := by decide +kernel
theorem dX4_readPoint_107 : decode cX4_readPoint 107 = .ok (.getfield 89, 3) := by decide +kernel
theorem dX4_readPoint_110 : decode cX4_readPoint 110 = .ok (.aload_n 0, 1) := by decide +kernel
theorem dX4_readPoint_111 : decode cX4_readPoint 111 = .ok (.getfield 12, 3) := by decide +kernel
theorem dX4_readPoint_114 : decode cX4_readPoint 114 = .ok (.getfield 114, 3) := by decide +kernel
theorem dX4_readPoint_117 : decode cX4_readPoint 117 = .ok (.if_icmp .le 9, 3) := by decide +kernel
theorem dX4_readPoint_120 : decode cX4_readPoint 120 = .ok (.aload_n 0, 1) := by decide +kernel
theorem dX4_readPoint_121 : decode cX4_readPoint 121 = .ok (.iconst 2, 1) := by decide +kernel
theorem dX4_readPoint_122 : decode cX4_readPoint 122 = .ok (.invokevirtual 72, 3) := by decide +kernel
theorem dX4_readPoint_125 : decode cX4_readPoint 125 = .ok (.ireturn, 1) := by decide +kernel
theorem dX4_readPoint_126 : decode cX4_readPoint 126 = .ok (.aload_n 0, 1) := by decide +kernel
theorem dX4_readPoint_127 : decode cX4_readPoint 127 = .ok (.iload 4, 2) := by decide +kernel
theorem dX4_readPoint_129 : decode cX4_readPoint 129 = .ok (.iload_n 3, 1) := by decide +kernel
theorem dX4_readPoint_130 : decode cX4_readPoint 130 = .ok (.iload_n 2, 1) := by decide +kernel
theorem dX4_readPoint_131 : decode cX4_readPoint 131 = .ok (.bipush 7, 2) := by decide +kernel
theorem dX4_readPoint_133 : decode cX4_readPoint 133 = .ok (.if_icmp .eq 9, 3) := by decide +kernel
theorem dX4_readPoint_136 : decode cX4_readPoint 136 = .ok (.iload_n 2, 1) := by decide +kernel
theorem dX4_readPoint_137 : decode cX4_readPoint 137 = .ok (.bipush 9, 2) := by decide +kernel
theorem dX4_readPoint_139 : decode cX4_readPoint 139 = .ok (.if_icmp .ne 11, 3) := by decide +kernel
theorem dX4_readPoint_142 : decode cX4_readPoint 142 = .ok (.aload_n 0, 1) := by decide +kernel
theorem dX4_readPoint_143 : decode cX4_readPoint 143 = .ok (.getfield 89, 3) := by decide +kernel
theorem dX4_readPoint_146 : decode cX4_readPoint 146 = .ok (.ineg, 1) := by decide +kernel
theorem dX4_readPoint_147 : decode cX4_readPoint 147 = .ok (.goto 7, 3) := by decide +kernel
theorem dX4_readPoint_150 : decode cX4_readPoint 150 = .ok (.aload_n 0, 1) := by decide +kernel
theorem dX4_readPoint_151 : decode cX4_readPoint 151 = .ok (.getfield 89, 3) := by decide +kernel
theorem dX4_readPoint_154 : decode cX4_readPoint 154 = .ok (.invokevirtual 117, 3) := by decide +kernel
theorem dX4_readPoint_157 : decode cX4_readPoint 157 = .ok (.iconst 1, 1) := by decide +kernel
theorem dX4_readPoint_158 : decode cX4_readPoint 158 = .ok (.ireturn, 1) := by decide +kernel
theorem dX4_takePoint_0 : decode cX4_takePoint 0 = .ok (.iload_n 2, 1) := by decide +kernel
theorem dX4_takePoint_1 : decode cX4_takePoint 1 = .ok (.ifCond .eq 25, 3) := by decide +kernel
theorem dX4_takePoint_4 : decode cX4_takePoint 4 = .ok (.aload_n 0, 1) := by decide +kernel
theorem dX4_takePoint_5 : decode cX4_takePoint 5 = .ok (.getfield 22, 3) := by decide +kernel
theorem dX4_takePoint_8 : decode cX4_takePoint 8 = .ok (.iload_n 1, 1) := by decide +kernel
theorem dX4_takePoint_9 : decode cX4_takePoint 9 = .ok (.iload_n 3, 1) := by decide +kernel
theorem dX4_takePoint_10 : decode cX4_takePoint 10 = .ok (.iastore, 1) := by decide +kernel
theorem dX4_takePoint_11 : decode cX4_takePoint 11 = .ok (.aload_n 0, 1) := by decide +kernel
theorem dX4_takePoint_12 : decode cX4_takePoint 12 = .ok (.dup, 1) := by decide +kernel
theorem dX4_takePoint_13 : decode cX4_takePoint 13 = .ok (.getfield 56, 3) := by decide +kernel
theorem dX4_takePoint_16 : decode cX4_takePoint 16 = .ok (.iconst 1, 1) := by decide +kernel
theorem dX4_takePoint_17 : decode cX4_takePoint 17 = .ok (.iload_n 1, 1) := by decide +kernel
theorem dX4_takePoint_18 : decode cX4_takePoint 18 = .ok (.ishl, 1) := by decide +kernel
theorem dX4_takePoint_19 : decode cX4_takePoint 19 = .ok (.ior, 1) := by decide +kernel
theorem dX4_takePoint_20 : decode cX4_takePoint 20 = .ok (.putfield 56, 3) := by decide +kernel
theorem dX4_takePoint_23 : decode cX4_takePoint 23 = .ok (.goto 22, 3) := by decide +kernel
theorem dX4_takePoint_26 : decode cX4_takePoint 26 = .ok (.aload_n 0, 1) := by decide +kernel
theorem dX4_takePoint_27 : decode cX4_takePoint 27 = .ok (.getfield 18, 3) := by decide +kernel
theorem dX4_takePoint_30 : decode cX4_takePoint 30 = .ok (.iload_n 1, 1) := by decide +kernel
theorem dX4_takePoint_31 : decode cX4_takePoint 31 = .ok (.iload_n 3, 1) := by decide +kernel
theorem dX4_takePoint_32 : decode cX4_takePoint 32 = .ok (.iastore, 1) := by decide +kernel
theorem dX4_takePoint_33 : decode cX4_takePoint 33 = .ok (.aload_n 0, 1) := by decide +kernel
theorem dX4_takePoint_34 : decode cX4_takePoint 34 = .ok (.dup, 1) := by decide +kernel
theorem dX4_takePoint_35 : decode cX4_takePoint 35 = .ok (.getfield 53, 3) := by decide +kernel
theorem dX4_takePoint_38 : decode cX4_takePoint 38 = .ok (.iconst 1, 1) := by decide +kernel
theorem dX4_takePoint_39 : decode cX4_takePoint 39 = .ok (.iload_n 1, 1) := by decide +kernel
theorem dX4_takePoint_40 : decode cX4_takePoint 40 = .ok (.ishl, 1) := by decide +kernel
theorem dX4_takePoint_41 : decode cX4_takePoint 41 = .ok (.ior, 1) := by decide +kernel
theorem dX4_takePoint_42 : decode cX4_takePoint 42 = .ok (.putfield 53, 3) := by decide +kernel
theorem dX4_takePoint_45 : decode cX4_takePoint 45 = .ok (.return_, 1) := by decide +kernel
set_option maxRecDepth 20000 in
theorem ggX4_nextToken_X4_isLetter : GoodIn wsX4_nextToken wsX4_isLetter := goodIn_r _ [8] (by decide +kernel) (by decide +kernel)
set_option maxRecDepth 20000 in
theorem gX4_nextToken_X4_isLetter : GoodIn wsX4_nextToken (va_wsS RX4 121 yX4_isLetter wsX4_isLetter) := goodIn_app (goodIn_of _ (by decide +kernel)) ggX4_nextToken_X4_isLetter
set_option maxRecDepth 20000 in
theorem ggX4_nextToken_X4_isDigit : GoodIn wsX4_nextToken wsX4_isDigit := goodIn_r _ [11] (by decide +kernel) (by decide +kernel)
set_option maxRecDepth 20000 in
theorem gX4_nextToken_X4_isDigit : GoodIn wsX4_nextToken (va_wsS RX4 124 yX4_isDigit wsX4_isDigit) := goodIn_app (goodIn_of _ (by decide +kernel)) ggX4_nextToken_X4_isDigit
set_option maxRecDepth 20000 in
theorem ggX4_nextToken_X4_readNumber : GoodIn wsX4_nextToken wsX4_readNumber := goodIn_r _ [15, 16, 1, 2, 17, 18, 19, 20, 21, 9, 10, 7, 11, 22, 23, 24, 25, 26, 27, 28, 29, 30, 31, 32, 33, 34] (by decide +kernel) (by decide +kernel)
set_option maxRecDepth 20000 in
theorem gX4_nextToken_X4_readNumber : GoodIn wsX4_nextToken (wsV RX4 127 RX4 yX4_readNumber wsX4_readNumber) := goodIn_app (goodIn_of _ (by decide +kernel)) ggX4_nextToken_X4_readNumber
theorem dX4_nextToken_0 : decode cX4_nextToken 0 = .ok (.aload_n 0, 1) := by decide +kernel
theorem dX4_nextToken_1 : decode cX4_nextToken 1 = .ok (.getfield 62, 3) := by decide +kernel
theorem dX4_nextToken_4 : decode cX4_nextToken 4 = .ok (.aload_n 0, 1) := by decide +kernel
theorem dX4_nextToken_5 : decode cX4_nextToken 5 = .ok (.getfield 59, 3) := by decide +kernel
theorem dX4_nextToken_8 : decode cX4_nextToken 8 = .ok (.if_icmp .ge 38, 3) := by decide +kernel
theorem dX4_nextToken_11 : decode cX4_nextToken 11 = .ok (.aload_n 1, 1) := by decide +kernel
theorem dX4_nextToken_12 : decode cX4_nextToken 12 = .ok (.aload_n 0, 1) := by decide +kernel
theorem dX4_nextToken_13 : decode cX4_nextToken 13 = .ok (.getfield 62, 3) := by decide +kernel
theorem dX4_nextToken_16 : decode cX4_nextToken 16 = .ok (.iaload, 1) := by decide +kernel
theorem dX4_nextToken_17 : decode cX4_nextToken 17 = .ok (.bipush 10, 2) := by decide +kernel
theorem dX4_nextToken_19 : decode cX4_nextToken 19 = .ok (.if_icmp .eq 14, 3) := by decide +kernel
theorem dX4_nextToken_22 : decode cX4_nextToken 22 = .ok (.aload_n 1, 1) := by decide +kernel
theorem dX4_nextToken_23 : decode cX4_nextToken 23 = .ok (.aload_n 0, 1) := by decide +kernel
theorem dX4_nextToken_24 : decode cX4_nextToken 24 = .ok (.getfield 62, 3) := by decide +kernel
theorem dX4_nextToken_27 : decode cX4_nextToken 27 = .ok (.iaload, 1) := by decide +kernel
theorem dX4_nextToken_28 : decode cX4_nextToken 28 = .ok (.bipush 32, 2) := by decide +kernel
theorem dX4_nextToken_30 : decode cX4_nextToken 30 = .ok (.if_icmp .ne 16, 3) := by decide +kernel
theorem dX4_nextToken_33 : decode cX4_nextToken 33 = .ok (.aload_n 0, 1) := by decide +kernel
theorem dX4_nextToken_34 : decode cX4_nextToken 34 = .ok (.dup, 1) := by decide +kernel
theorem dX4_nextToken_35 : decode cX4_nextToken 35 = .ok (.getfield 62, 3) := by decide +kernel
theorem dX4_nextToken_38 : decode cX4_nextToken 38 = .ok (.iconst 1, 1) := by decide +kernel
theorem dX4_nextToken_39 : decode cX4_nextToken 39 = .ok (.iadd, 1) := by decide +kernel
theorem dX4_nextToken_40 : decode cX4_nextToken 40 = .ok (.putfield 62, 3) := by decide +kernel
theorem dX4_nextToken_43 : decode cX4_nextToken 43 = .ok (.goto (-43), 3) := by decide +kernel
theorem dX4_nextToken_46 : decode cX4_nextToken 46 = .ok (.aload_n 0, 1) := by decide +kernel
theorem dX4_nextToken_47 : decode cX4_nextToken 47 = .ok (.aload_n 0, 1) := by decide +kernel
theorem dX4_nextToken_48 : decode cX4_nextToken 48 = .ok (.getfield 62, 3) := by decide +kernel
theorem dX4_nextToken_51 : decode cX4_nextToken 51 = .ok (.putfield 65, 3) := by decide +kernel
theorem dX4_nextToken_54 : decode cX4_nextToken 54 = .ok (.aload_n 0, 1) := by decide +kernel
theorem dX4_nextToken_55 : decode cX4_nextToken 55 = .ok (.getfield 62, 3) := by decide +kernel
theorem dX4_nextToken_58 : decode cX4_nextToken 58 = .ok (.aload_n 0, 1) := by decide +kernel
theorem dX4_nextToken_59 : decode cX4_nextToken 59 = .ok (.getfield 59, 3) := by decide +kernel
theorem dX4_nextToken_62 : decode cX4_nextToken 62 = .ok (.if_icmp .lt 11, 3) := by decide +kernel
theorem dX4_nextToken_65 : decode cX4_nextToken 65 = .ok (.aload_n 0, 1) := by decide +kernel
theorem dX4_nextToken_66 : decode cX4_nextToken 66 = .ok (.iconst 0, 1) := by decide +kernel
theorem dX4_nextToken_67 : decode cX4_nextToken 67 = .ok (.putfield 40, 3) := by decide +kernel
theorem dX4_nextToken_70 : decode cX4_nextToken 70 = .ok (.goto 111, 3) := by decide +kernel
theorem dX4_nextToken_73 : decode cX4_nextToken 73 = .ok (.aload_n 1, 1) := by decide +kernel
theorem dX4_nextToken_74 : decode cX4_nextToken 74 = .ok (.aload_n 0, 1) := by decide +kernel
theorem dX4_nextToken_75 : decode cX4_nextToken 75 = .ok (.getfield 62, 3) := by decide +kernel
theorem dX4_nextToken_78 : decode cX4_nextToken 78 = .ok (.iaload, 1) := by decide +kernel
theorem dX4_nextToken_79 : decode cX4_nextToken 79 = .ok (.invokestatic 121, 3) := by decide +kernel
theorem dX4_nextToken_82 : decode cX4_nextToken 82 = .ok (.ifCond .eq 44, 3) := by decide +kernel
theorem dX4_nextToken_85 : decode cX4_nextToken 85 = .ok (.aload_n 0, 1) := by decide +kernel
theorem dX4_nextToken_86 : decode cX4_nextToken 86 = .ok (.iconst 1, 1) := by decide +kernel
theorem dX4_nextToken_87 : decode cX4_nextToken 87 = .ok (.putfield 40, 3) := by decide +kernel
theorem dX4_nextToken_90 : decode cX4_nextToken 90 = .ok (.aload_n 0, 1) := by decide +kernel
theorem dX4_nextToken_91 : decode cX4_nextToken 91 = .ok (.getfield 62, 3) := by decide +kernel
theorem dX4_nextToken_94 : decode cX4_nextToken 94 = .ok (.aload_n 0, 1) := by decide +kernel
theorem dX4_nextToken_95 : decode cX4_nextToken 95 = .ok (.getfield 59, 3) := by decide +kernel
theorem dX4_nextToken_98 : decode cX4_nextToken 98 = .ok (.if_icmp .ge 83, 3) := by decide +kernel
theorem dX4_nextToken_101 : decode cX4_nextToken 101 = .ok (.aload_n 1, 1) := by decide +kernel
theorem dX4_nextToken_102 : decode cX4_nextToken 102 = .ok (.aload_n 0, 1) := by decide +kernel
theorem dX4_nextToken_103 : decode cX4_nextToken 103 = .ok (.getfield 62, 3) := by decide +kernel
theorem dX4_nextToken_106 : decode cX4_nextToken 106 = .ok (.iaload, 1) := by decide +kernel
theorem dX4_nextToken_107 : decode cX4_nextToken 107 = .ok (.invokestatic 121, 3) := by decide +kernel
theorem dX4_nextToken_110 : decode cX4_nextToken 110 = .ok (.ifCond .eq 71, 3) := by decide +kernel
theorem dX4_nextToken_113 : decode cX4_nextToken 113 = .ok (.aload_n 0, 1) := by decide +kernel
theorem dX4_nextToken_114 : decode cX4_nextToken 114 = .ok (.dup, 1) := by decide +kernel
theorem dX4_nextToken_115 : decode cX4_nextToken 115 = .ok (.getfield 62, 3) := by decide +kernel
theorem dX4_nextToken_118 : decode cX4_nextToken 118 = .ok (.iconst 1, 1) := by decide +kernel
theorem dX4_nextToken_119 : decode cX4_nextToken 119 = .ok (.iadd, 1) := by decide +kernel
theorem dX4_nextToken_120 : decode cX4_nextToken 120 = .ok (.putfield 62, 3) := by decide +kernel
theorem dX4_nextToken_123 : decode cX4_nextToken 123 = .ok (.goto (-33), 3) := by decide +kernel
theorem dX4_nextToken_126 : decode cX4_nextToken 126 = .ok (.aload_n 1, 1) := by decide +kernel
theorem dX4_nextToken_127 : decode cX4_nextToken 127 = .ok (.aload_n 0, 1) := by decide +kernel
theorem dX4_nextToken_128 : decode cX4_nextToken 128 = .ok (.getfield 62, 3) := by decide +kernel
theorem dX4_nextToken_131 : decode cX4_nextToken 131 = .ok (.iaload, 1) := by decide +kernel
theorem dX4_nextToken_132 : decode cX4_nextToken 132 = .ok (.invokestatic 124, 3) := by decide +kernel
theorem dX4_nextToken_135 : decode cX4_nextToken 135 = .ok (.ifCond .eq 16, 3) := by decide +kernel
theorem dX4_nextToken_138 : decode cX4_nextToken 138 = .ok (.aload_n 0, 1) := by decide +kernel
theorem dX4_nextToken_139 : decode cX4_nextToken 139 = .ok (.iconst 2, 1) := by decide +kernel
theorem dX4_nextToken_140 : decode cX4_nextToken 140 = .ok (.putfield 40, 3) := by decide +kernel
theorem dX4_nextToken_143 : decode cX4_nextToken 143 = .ok (.aload_n 0, 1) := by decide +kernel
theorem dX4_nextToken_144 : decode cX4_nextToken 144 = .ok (.aload_n 1, 1) := by decide +kernel
theorem dX4_nextToken_145 : decode cX4_nextToken 145 = .ok (.invokevirtual 127, 3) := by decide +kernel
theorem dX4_nextToken_148 : decode cX4_nextToken 148 = .ok (.goto 33, 3) := by decide +kernel
theorem dX4_nextToken_151 : decode cX4_nextToken 151 = .ok (.aload_n 0, 1) := by decide +kernel
theorem dX4_nextToken_152 : decode cX4_nextToken 152 = .ok (.aload_n 1, 1) := by decide +kernel
theorem dX4_nextToken_153 : decode cX4_nextToken 153 = .ok (.aload_n 0, 1) := by decide +kernel
theorem dX4_nextToken_154 : decode cX4_nextToken 154 = .ok (.getfield 62, 3) := by decide +kernel
theorem dX4_nextToken_157 : decode cX4_nextToken 157 = .ok (.iaload, 1) := by decide +kernel
theorem dX4_nextToken_158 : decode cX4_nextToken 158 = .ok (.bipush 59, 2) := by decide +kernel
theorem dX4_nextToken_160 : decode cX4_nextToken 160 = .ok (.if_icmp .ne 7, 3) := by decide +kernel
theorem dX4_nextToken_163 : decode cX4_nextToken 163 = .ok (.iconst 3, 1) := by decide +kernel
theorem dX4_nextToken_164 : decode cX4_nextToken 164 = .ok (.goto 4, 3) := by decide +kernel
theorem dX4_nextToken_167 : decode cX4_nextToken 167 = .ok (.iconst 4, 1) := by decide +kernel
theorem dX4_nextToken_168 : decode cX4_nextToken 168 = .ok (.putfield 40, 3) := by decide +kernel
theorem dX4_nextToken_171 : decode cX4_nextToken 171 = .ok (.aload_n 0, 1) := by decide +kernel
theorem dX4_nextToken_172 : decode cX4_nextToken 172 = .ok (.dup, 1) := by decide +kernel
theorem dX4_nextToken_173 : decode cX4_nextToken 173 = .ok (.getfield 62, 3) := by decide +kernel
theorem dX4_nextToken_176 : decode cX4_nextToken 176 = .ok (.iconst 1, 1) := by decide +kernel
theorem dX4_nextToken_177 : decode cX4_nextToken 177 = .ok (.iadd, 1) := by decide +kernel
theorem dX4_nextToken_178 : decode cX4_nextToken 178 = .ok (.putfield 62, 3) := by decide +kernel
theorem dX4_nextToken_181 : decode cX4_nextToken 181 = .ok (.return_, 1) := by decide +kernel
set_option maxRecDepth 20000 in
theorem ggX4_readNumber_X4_isDigit : GoodIn wsX4_readNumber wsX4_isDigit := goodIn_r _ [12] (by decide +kernel) (by decide +kernel)
set_option maxRecDepth 20000 in
theorem gX4_readNumber_X4_isDigit : GoodIn wsX4_readNumber (va_wsS RX4 124 yX4_isDigit wsX4_isDigit) := goodIn_app (goodIn_of _ (by decide +kernel)) ggX4_readNumber_X4_isDigit
theorem dX4_readNumber_0 : decode cX4_readNumber 0 = .ok (.aload_n 0, 1) := by decide +kernel
theorem dX4_readNumber_1 : decode cX4_readNumber 1 = .ok (.iconst 0, 1) := by decide +kernel
theorem dX4_readNumber_2 : decode cX4_readNumber 2 = .ok (.putfield 89, 3) := by decide +kernel
theorem dX4_readNumber_5 : decode cX4_readNumber 5 = .ok (.aload_n 0, 1) := by decide +kernel
theorem dX4_readNumber_6 : decode cX4_readNumber 6 = .ok (.getfield 62, 3) := by decide +kernel
theorem dX4_readNumber_9 : decode cX4_readNumber 9 = .ok (.aload_n 0, 1) := by decide +kernel
theorem dX4_readNumber_10 : decode cX4_readNumber 10 = .ok (.getfield 59, 3) := by decide +kernel
theorem dX4_readNumber_13 : decode cX4_readNumber 13 = .ok (.if_icmp .ge 54, 3) := by decide +kernel
theorem dX4_readNumber_16 : decode cX4_readNumber 16 = .ok (.aload_n 1, 1) := by decide +kernel
theorem dX4_readNumber_17 : decode cX4_readNumber 17 = .ok (.aload_n 0, 1) := by decide +kernel
theorem dX4_readNumber_18 : decode cX4_readNumber 18 = .ok (.getfield 62, 3) := by decide +kernel
theorem dX4_readNumber_21 : decode cX4_readNumber 21 = .ok (.iaload, 1) := by decide +kernel
theorem dX4_readNumber_22 : decode cX4_readNumber 22 = .ok (.invokestatic 124, 3) := by decide +kernel
theorem dX4_readNumber_25 : decode cX4_readNumber 25 = .ok (.ifCond .eq 42, 3) := by decide +kernel
theorem dX4_readNumber_28 : decode cX4_readNumber 28 = .ok (.aload_n 0, 1) := by decide +kernel
theorem dX4_readNumber_29 : decode cX4_readNumber 29 = .ok (.ldc 130, 2) := by decide +kernel
theorem dX4_readNumber_31 : decode cX4_readNumber 31 = .ok (.aload_n 0, 1) := by decide +kernel
theorem dX4_readNumber_32 : decode cX4_readNumber 32 = .ok (.getfield 89, 3) := by decide +kernel
theorem dX4_readNumber_35 : decode cX4_readNumber 35 = .ok (.bipush 10, 2) := by decide +kernel
theorem dX4_readNumber_37 : decode cX4_readNumber 37 = .ok (.imul, 1) := by decide +kernel
theorem dX4_readNumber_38 : decode cX4_readNumber 38 = .ok (.aload_n 1, 1) := by decide +kernel
theorem dX4_readNumber_39 : decode cX4_readNumber 39 = .ok (.aload_n 0, 1) := by decide +kernel
theorem dX4_readNumber_40 : decode cX4_readNumber 40 = .ok (.getfield 62, 3) := by decide +kernel
theorem dX4_readNumber_43 : decode cX4_readNumber 43 = .ok (.iaload, 1) := by decide +kernel
theorem dX4_readNumber_44 : decode cX4_readNumber 44 = .ok (.iadd, 1) := by decide +kernel
theorem dX4_readNumber_45 : decode cX4_readNumber 45 = .ok (.bipush 48, 2) := by decide +kernel
theorem dX4_readNumber_47 : decode cX4_readNumber 47 = .ok (.isub, 1) := by decide +kernel
theorem dX4_readNumber_48 : decode cX4_readNumber 48 = .ok (.invokestatic 131, 3) := by decide +kernel
theorem dX4_readNumber_51 : decode cX4_readNumber 51 = .ok (.putfield 89, 3) := by decide +kernel
theorem dX4_readNumber_54 : decode cX4_readNumber 54 = .ok (.aload_n 0, 1) := by decide +kernel
theorem dX4_readNumber_55 : decode cX4_readNumber 55 = .ok (.dup, 1) := by decide +kernel
theorem dX4_readNumber_56 : decode cX4_readNumber 56 = .ok (.getfield 62, 3) := by decide +kernel
theorem dX4_readNumber_59 : decode cX4_readNumber 59 = .ok (.iconst 1, 1) := by decide +kernel
theorem dX4_readNumber_60 : decode cX4_readNumber 60 = .ok (.iadd, 1) := by decide +kernel
theorem dX4_readNumber_61 : decode cX4_readNumber 61 = .ok (.putfield 62, 3) := by decide +kernel
theorem dX4_readNumber_64 : decode cX4_readNumber 64 = .ok (.goto (-59), 3) := by decide +kernel
theorem dX4_readNumber_67 : decode cX4_readNumber 67 = .ok (.return_, 1) := by decide +kernel
theorem dX4_isLetter_0 : decode cX4_isLetter 0 = .ok (.iload_n 0, 1) := by decide +kernel
theorem dX4_isLetter_1 : decode cX4_isLetter 1 = .ok (.bipush 97, 2) := by decide +kernel
theorem dX4_isLetter_3 : decode cX4_isLetter 3 = .ok (.if_icmp .lt 13, 3) := by decide +kernel
theorem dX4_isLetter_6 : decode cX4_isLetter 6 = .ok (.iload_n 0, 1) := by decide +kernel
theorem dX4_isLetter_7 : decode cX4_isLetter 7 = .ok (.bipush 122, 2) := by decide +kernel
theorem dX4_isLetter_9 : decode cX4_isLetter 9 = .ok (.if_icmp .gt 7, 3) := by decide +kernel
theorem dX4_isLetter_12 : decode cX4_isLetter 12 = .ok (.iconst 1, 1) := by decide +kernel
theorem dX4_isLetter_13 : decode cX4_isLetter 13 = .ok (.goto 4, 3) := by decide +kernel
theorem dX4_isLetter_16 : decode cX4_isLetter 16 = .ok (.iconst 0, 1) := by decide +kernel
theorem dX4_isLetter_17 : decode cX4_isLetter 17 = .ok (.ireturn, 1) := by decide +kernel
theorem dX4_isDigit_0 : decode cX4_isDigit 0 = .ok (.iload_n 0, 1) := by decide +kernel
theorem dX4_isDigit_1 : decode cX4_isDigit 1 = .ok (.bipush 48, 2) := by decide +kernel
theorem dX4_isDigit_3 : decode cX4_isDigit 3 = .ok (.if_icmp .lt 13, 3) := by decide +kernel
theorem dX4_isDigit_6 : decode cX4_isDigit 6 = .ok (.iload_n 0, 1) := by decide +kernel
theorem dX4_isDigit_7 : decode cX4_isDigit 7 = .ok (.bipush 57, 2) := by decide +kernel
theorem dX4_isDigit_9 : decode cX4_isDigit 9 = .ok (.if_icmp .gt 7, 3) := by decide +kernel
theorem dX4_isDigit_12 : decode cX4_isDigit 12 = .ok (.iconst 1, 1) := by decide +kernel
theorem dX4_isDigit_13 : decode cX4_isDigit 13 = .ok (.goto 4, 3) := by decide +kernel
theorem dX4_isDigit_16 : decode cX4_isDigit 16 = .ok (.iconst 0, 1) := by decide +kernel
theorem dX4_isDigit_17 : decode cX4_isDigit 17 = .ok (.ireturn, 1) := by decide +kernel
set_option maxRecDepth 20000 in
theorem ggX4_wordHere_X4_isWordHere : GoodIn wsX4_wordHere wsX4_isWordHere := goodIn_r _ [5, 6, 7, 8, 9, 10, 11, 12, 13, 14, 15, 16, 17, 18, 19, 20, 21, 22, 23, 24, 25, 26, 27, 28, 29, 30, 31, 32, 33, 34, 35, 36, 37, 38, 39, 40, 41, 42, 43, 44, 45, 46, 47, 48, 49, 50, 51, 52, 53, 54, 55, 56, 57, 58, 59, 60, 61] (by decide +kernel) (by decide +kernel)
set_option maxRecDepth 20000 in
theorem gX4_wordHere_X4_isWordHere : GoodIn wsX4_wordHere (wsV RX4 137 RX4 yX4_isWordHere wsX4_isWordHere) := goodIn_app (goodIn_of _ (by decide +kernel)) ggX4_wordHere_X4_isWordHere
theorem dX4_wordHere_0 : decode cX4_wordHere 0 = .ok (.iconst 0, 1) := by decide +kernel
theorem dX4_wordHere_1 : decode cX4_wordHere 1 = .ok (.istore_n 2, 1) := by decide +kernel
theorem dX4_wordHere_2 : decode cX4_wordHere 2 = .ok (.iload_n 2, 1) := by decide +kernel
theorem dX4_wordHere_3 : decode cX4_wordHere 3 = .ok (.bipush 10, 2) := by decide +kernel
theorem dX4_wordHere_5 : decode cX4_wordHere 5 = .ok (.if_icmp .ge 22, 3) := by decide +kernel
theorem dX4_wordHere_8 : decode cX4_wordHere 8 = .ok (.aload_n 0, 1) := by decide +kernel
theorem dX4_wordHere_9 : decode cX4_wordHere 9 = .ok (.aload_n 1, 1) := by decide +kernel
theorem dX4_wordHere_10 : decode cX4_wordHere 10 = .ok (.iload_n 2, 1) := by decide +kernel
theorem dX4_wordHere_11 : decode cX4_wordHere 11 = .ok (.iconst 5, 1) := by decide +kernel
theorem dX4_wordHere_12 : decode cX4_wordHere 12 = .ok (.imul, 1) := by decide +kernel
theorem dX4_wordHere_13 : decode cX4_wordHere 13 = .ok (.invokevirtual 137, 3) := by decide +kernel
theorem dX4_wordHere_16 : decode cX4_wordHere 16 = .ok (.ifCond .eq 5, 3) := by decide +kernel
theorem dX4_wordHere_19 : decode cX4_wordHere 19 = .ok (.iload_n 2, 1) := by decide +kernel
theorem dX4_wordHere_20 : decode cX4_wordHere 20 = .ok (.ireturn, 1) := by decide +kernel
theorem dX4_wordHere_21 : decode cX4_wordHere 21 = .ok (.iinc 2 1, 3) := by decide +kernel
theorem dX4_wordHere_24 : decode cX4_wordHere 24 = .ok (.goto (-22), 3) := by decide +kernel
theorem dX4_wordHere_27 : decode cX4_wordHere 27 = .ok (.iconst (-1), 1) := by decide +kernel
theorem dX4_wordHere_28 : decode cX4_wordHere 28 = .ok (.ireturn, 1) := by decide +kernel
set_option maxRecDepth 20000 in
theorem ggX4_isWordHere_J0_charAt_5068e : GoodIn wsX4_isWordHere wsJ0_charAt_5068e := goodIn_r _ [7, 8, 9, 10, 11, 6, 12, 13, 14, 15, 16, 17, 18, 19, 20, 21, 22, 23, 24, 25, 26, 27, 28, 29, 30, 31, 32, 33, 34, 35, 36, 37, 38, 39, 40, 41, 42, 43] (by decide +kernel) (by decide +kernel)
set_option maxRecDepth 20000 in
theorem gX4_isWordHere_J0_charAt_5068e : GoodIn wsX4_isWordHere (wsV RX4 142 RJ0 yJ0_charAt_5068e wsJ0_charAt_5068e) := goodIn_app (goodIn_of _ (by decide +kernel)) ggX4_isWordHere_J0_charAt_5068e
theorem dX4_isWordHere_0 : decode cX4_isWordHere 0 = .ok (.aload_n 0, 1) := by decide +kernel
theorem dX4_isWordHere_1 : decode cX4_isWordHere 1 = .ok (.getfield 62, 3) := by decide +kernel
theorem dX4_isWordHere_4 : decode cX4_isWordHere 4 = .ok (.aload_n 0, 1) := by decide +kernel
theorem dX4_isWordHere_5 : decode cX4_isWordHere 5 = .ok (.getfield 65, 3) := by decide +kernel
theorem dX4_isWordHere_8 : decode cX4_isWordHere 8 = .ok (.isub, 1) := by decide +kernel
theorem dX4_isWordHere_9 : decode cX4_isWordHere 9 = .ok (.iconst 5, 1) := by decide +kernel
theorem dX4_isWordHere_10 : decode cX4_isWordHere 10 = .ok (.if_icmp .le 5, 3) := by decide +kernel
theorem dX4_isWordHere_13 : decode cX4_isWordHere 13 = .ok (.iconst 0, 1) := by decide +kernel
theorem dX4_isWordHere_14 : decode cX4_isWordHere 14 = .ok (.ireturn, 1) := by decide +kernel
theorem dX4_isWordHere_15 : decode cX4_isWordHere 15 = .ok (.iconst 0, 1) := by decide +kernel
theorem dX4_isWordHere_16 : decode cX4_isWordHere 16 = .ok (.istore_n 3, 1) := by decide +kernel
theorem dX4_isWordHere_17 : decode cX4_isWordHere 17 = .ok (.iload_n 3, 1) := by decide +kernel
theorem dX4_isWordHere_18 : decode cX4_isWordHere 18 = .ok (.iconst 5, 1) := by decide +kernel
theorem dX4_isWordHere_19 : decode cX4_isWordHere 19 = .ok (.if_icmp .ge 52, 3) := by decide +kernel
theorem dX4_isWordHere_22 : decode cX4_isWordHere 22 = .ok (.aload_n 0, 1) := by decide +kernel
theorem dX4_isWordHere_23 : decode cX4_isWordHere 23 = .ok (.getfield 65, 3) := by decide +kernel
theorem dX4_isWordHere_26 : decode cX4_isWordHere 26 = .ok (.iload_n 3, 1) := by decide +kernel
theorem dX4_isWordHere_27 : decode cX4_isWordHere 27 = .ok (.iadd, 1) := by decide +kernel
theorem dX4_isWordHere_28 : decode cX4_isWordHere 28 = .ok (.aload_n 0, 1) := by decide +kernel
theorem dX4_isWordHere_29 : decode cX4_isWordHere 29 = .ok (.getfield 62, 3) := by decide +kernel
theorem dX4_isWordHere_32 : decode cX4_isWordHere 32 = .ok (.if_icmp .ge 14, 3) := by decide +kernel
theorem dX4_isWordHere_35 : decode cX4_isWordHere 35 = .ok (.aload_n 1, 1) := by decide +kernel
theorem dX4_isWordHere_36 : decode cX4_isWordHere 36 = .ok (.aload_n 0, 1) := by decide +kernel
theorem dX4_isWordHere_37 : decode cX4_isWordHere 37 = .ok (.getfield 65, 3) := by decide +kernel
theorem dX4_isWordHere_40 : decode cX4_isWordHere 40 = .ok (.iload_n 3, 1) := by decide +kernel
theorem dX4_isWordHere_41 : decode cX4_isWordHere 41 = .ok (.iadd, 1) := by decide +kernel
theorem dX4_isWordHere_42 : decode cX4_isWordHere 42 = .ok (.iaload, 1) := by decide +kernel
theorem dX4_isWordHere_43 : decode cX4_isWordHere 43 = .ok (.goto 5, 3) := by decide +kernel
theorem dX4_isWordHere_46 : decode cX4_isWordHere 46 = .ok (.bipush 32, 2) := by decide +kernel
theorem dX4_isWordHere_48 : decode cX4_isWordHere 48 = .ok (.istore 4, 2) := by decide +kernel
theorem dX4_isWordHere_50 : decode cX4_isWordHere 50 = .ok (.iload 4, 2) := by decide +kernel
theorem dX4_isWordHere_52 : decode cX4_isWordHere 52 = .ok (.ldc 140, 2) := by decide +kernel
theorem dX4_isWordHere_54 : decode cX4_isWordHere 54 = .ok (.iload_n 2, 1) := by decide +kernel
theorem dX4_isWordHere_55 : decode cX4_isWordHere 55 = .ok (.iload_n 3, 1) := by decide +kernel
theorem dX4_isWordHere_56 : decode cX4_isWordHere 56 = .ok (.iadd, 1) := by decide +kernel
theorem dX4_isWordHere_57 : decode cX4_isWordHere 57 = .ok (.invokevirtual 142, 3) := by decide +kernel
theorem dX4_isWordHere_60 : decode cX4_isWordHere 60 = .ok (.if_icmp .eq 5, 3) := by decide +kernel
theorem dX4_isWordHere_63 : decode cX4_isWordHere 63 = .ok (.iconst 0, 1) := by decide +kernel
theorem dX4_isWordHere_64 : decode cX4_isWordHere 64 = .ok (.ireturn, 1) := by decide +kernel
theorem dX4_isWordHere_65 : decode cX4_isWordHere 65 = .ok (.iinc 3 1, 3) := by decide +kernel
theorem dX4_isWordHere_68 : decode cX4_isWordHere 68 = .ok (.goto (-51), 3) := by decide +kernel
theorem dX4_isWordHere_71 : decode cX4_isWordHere 71 = .ok (.iconst 1, 1) := by decide +kernel
theorem dX4_isWordHere_72 : decode cX4_isWordHere 72 = .ok (.ireturn, 1) := by decide +kernel
