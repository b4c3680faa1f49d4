set_option maxRecDepth 20000 in
theorem ggX8_init_X7_init : GoodIn wsX8_init wsX7_init := goodIn_r _ [39, 40, 2, 3, 41, 42, 43, 44, 45, 80, 81, 82, 83, 84, 85, 86, 87, 88, 89, 90, 91] (by decide +kernel) (by decide +kernel)
set_option maxRecDepth 20000 in
theorem gX8_init_X7_init_n9 : GoodIn wsX8_init (wsX7_init) := ggX8_init_X7_init
set_option maxRecDepth 20000 in
theorem ggX8_init_X3_init : GoodIn wsX8_init wsX3_init := goodIn_r _ [47, 48, 2, 3, 41, 49, 50, 51, 52, 103, 104, 105, 106, 107, 108] (by decide +kernel) (by decide +kernel)
set_option maxRecDepth 20000 in
theorem gX8_init_X3_init_n24 : GoodIn wsX8_init (wsX3_init) := ggX8_init_X3_init
set_option maxRecDepth 20000 in
theorem ggX8_init_X6_init : GoodIn wsX8_init wsX6_init := goodIn_r _ [54, 55, 2, 3, 56, 5, 6, 57, 38, 39, 40, 41, 42, 43, 44, 45, 80, 81, 82, 83, 84, 85, 86, 87, 88, 89, 90, 91, 109, 110, 111, 112] (by decide +kernel) (by decide +kernel)
set_option maxRecDepth 20000 in
theorem gX8_init_X6_init_n31 : GoodIn wsX8_init (wsX6_init) := ggX8_init_X6_init
set_option maxRecDepth 20000 in
theorem ggX8_init_X0_init : GoodIn wsX8_init wsX0_init := goodIn_r _ [59, 60, 2, 3, 41, 61, 62, 113, 114] (by decide +kernel) (by decide +kernel)
set_option maxRecDepth 20000 in
theorem gX8_init_X0_init_n38 : GoodIn wsX8_init (wsX0_init) := ggX8_init_X0_init
set_option maxRecDepth 20000 in
theorem ggX8_init_X4_init : GoodIn wsX8_init wsX4_init := goodIn_r _ [64, 65, 2, 3, 41, 66, 115] (by decide +kernel) (by decide +kernel)
set_option maxRecDepth 20000 in
theorem gX8_init_X4_init_n45 : GoodIn wsX8_init (wsX4_init) := ggX8_init_X4_init
set_option maxRecDepth 20000 in
theorem ggX8_init_X2_init : GoodIn wsX8_init wsX2_init := goodIn_r _ [68, 69, 2, 3, 41, 70, 116, 117, 118] (by decide +kernel) (by decide +kernel)
set_option maxRecDepth 20000 in
theorem gX8_init_X2_init_n52 : GoodIn wsX8_init (wsX2_init) := ggX8_init_X2_init
set_option maxRecDepth 20000 in
theorem ggX8_init_X5_init : GoodIn wsX8_init wsX5_init := goodIn_r _ [72, 73, 2, 3, 41, 74, 119, 120] (by decide +kernel) (by decide +kernel)
set_option maxRecDepth 20000 in
theorem gX8_init_X5_init_n59 : GoodIn wsX8_init (wsX5_init) := ggX8_init_X5_init
set_option maxRecDepth 20000 in
theorem ggX8_init_X1_init : GoodIn wsX8_init wsX1_init := goodIn_r _ [76, 77, 2, 3, 78, 79, 121, 122, 123] (by decide +kernel) (by decide +kernel)
set_option maxRecDepth 20000 in
theorem gX8_init_X1_init_n66 : GoodIn wsX8_init (wsX1_init) := ggX8_init_X1_init
theorem dX8_init_0 : decode cX8_init 0 = .ok (.aload_n 0, 1) := by decide +kernel
theorem dX8_init_1 : decode cX8_init 1 = .ok (.invokespecial 1, 3) := by decide +kernel
theorem dX8_init_4 : decode cX8_init 4 = .ok (.aload_n 0, 1) := by decide +kernel
theorem dX8_init_5 : decode cX8_init 5 = .ok (.new 7, 3) := by decide +kernel
theorem dX8_init_8 : decode cX8_init 8 = .ok (.dup, 1) := by decide +kernel
theorem dX8_init_9 : decode cX8_init 9 = .ok (.invokespecial 9, 3) := by decide +kernel
theorem dX8_init_12 : decode cX8_init 12 = .ok (.putfield 10, 3) := by decide +kernel
theorem dX8_init_15 : decode cX8_init 15 = .ok (.aload_n 0, 1) := by decide +kernel
theorem dX8_init_16 : decode cX8_init 16 = .ok (.new 7, 3) := by decide +kernel
theorem dX8_init_19 : decode cX8_init 19 = .ok (.dup, 1) := by decide +kernel
theorem dX8_init_20 : decode cX8_init 20 = .ok (.invokespecial 9, 3) := by decide +kernel
theorem dX8_init_23 : decode cX8_init 23 = .ok (.putfield 16, 3) := by decide +kernel
theorem dX8_init_26 : decode cX8_init 26 = .ok (.aload_n 0, 1) := by decide +kernel
theorem dX8_init_27 : decode cX8_init 27 = .ok (.new 7, 3) := by decide +kernel
theorem dX8_init_30 : decode cX8_init 30 = .ok (.dup, 1) := by decide +kernel
theorem dX8_init_31 : decode cX8_init 31 = .ok (.invokespecial 9, 3) := by decide +kernel
theorem dX8_init_34 : decode cX8_init 34 = .ok (.putfield 19, 3) := by decide +kernel
theorem dX8_init_37 : decode cX8_init 37 = .ok (.aload_n 0, 1) := by decide +kernel
theorem dX8_init_38 : decode cX8_init 38 = .ok (.new 22, 3) := by decide +kernel
theorem dX8_init_41 : decode cX8_init 41 = .ok (.dup, 1) := by decide +kernel
theorem dX8_init_42 : decode cX8_init 42 = .ok (.invokespecial 24, 3) := by decide +kernel
theorem dX8_init_45 : decode cX8_init 45 = .ok (.putfield 25, 3) := by decide +kernel
theorem dX8_init_48 : decode cX8_init 48 = .ok (.aload_n 0, 1) := by decide +kernel
theorem dX8_init_49 : decode cX8_init 49 = .ok (.new 29, 3) := by decide +kernel
theorem dX8_init_52 : decode cX8_init 52 = .ok (.dup, 1) := by decide +kernel
theorem dX8_init_53 : decode cX8_init 53 = .ok (.invokespecial 31, 3) := by decide +kernel
theorem dX8_init_56 : decode cX8_init 56 = .ok (.putfield 32, 3) := by decide +kernel
theorem dX8_init_59 : decode cX8_init 59 = .ok (.aload_n 0, 1) := by decide +kernel
theorem dX8_init_60 : decode cX8_init 60 = .ok (.new 36, 3) := by decide +kernel
theorem dX8_init_63 : decode cX8_init 63 = .ok (.dup, 1) := by decide +kernel
theorem dX8_init_64 : decode cX8_init 64 = .ok (.invokespecial 38, 3) := by decide +kernel
theorem dX8_init_67 : decode cX8_init 67 = .ok (.putfield 39, 3) := by decide +kernel
theorem dX8_init_70 : decode cX8_init 70 = .ok (.aload_n 0, 1) := by decide +kernel
theorem dX8_init_71 : decode cX8_init 71 = .ok (.new 43, 3) := by decide +kernel
theorem dX8_init_74 : decode cX8_init 74 = .ok (.dup, 1) := by decide +kernel
theorem dX8_init_75 : decode cX8_init 75 = .ok (.invokespecial 45, 3) := by decide +kernel
theorem dX8_init_78 : decode cX8_init 78 = .ok (.putfield 46, 3) := by decide +kernel
theorem dX8_init_81 : decode cX8_init 81 = .ok (.aload_n 0, 1) := by decide +kernel
theorem dX8_init_82 : decode cX8_init 82 = .ok (.new 50, 3) := by decide +kernel
theorem dX8_init_85 : decode cX8_init 85 = .ok (.dup, 1) := by decide +kernel
theorem dX8_init_86 : decode cX8_init 86 = .ok (.invokespecial 52, 3) := by decide +kernel
theorem dX8_init_89 : decode cX8_init 89 = .ok (.putfield 53, 3) := by decide +kernel
theorem dX8_init_92 : decode cX8_init 92 = .ok (.aload_n 0, 1) := by decide +kernel
theorem dX8_init_93 : decode cX8_init 93 = .ok (.new 57, 3) := by decide +kernel
theorem dX8_init_96 : decode cX8_init 96 = .ok (.dup, 1) := by decide +kernel
theorem dX8_init_97 : decode cX8_init 97 = .ok (.invokespecial 59, 3) := by decide +kernel
theorem dX8_init_100 : decode cX8_init 100 = .ok (.putfield 60, 3) := by decide +kernel
theorem dX8_init_103 : decode cX8_init 103 = .ok (.aload_n 0, 1) := by decide +kernel
theorem dX8_init_104 : decode cX8_init 104 = .ok (.new 64, 3) := by decide +kernel
theorem dX8_init_107 : decode cX8_init 107 = .ok (.dup, 1) := by decide +kernel
theorem dX8_init_108 : decode cX8_init 108 = .ok (.invokespecial 66, 3) := by decide +kernel
theorem dX8_init_111 : decode cX8_init 111 = .ok (.putfield 67, 3) := by decide +kernel
theorem dX8_init_114 : decode cX8_init 114 = .ok (.return_, 1) := by decide +kernel
set_option maxRecDepth 20000 in
theorem ggX8_parish_X8_isParish : GoodIn wsX8_parish wsX8_isParish := goodIn_r _ [5, 6, 7, 4, 8] (by decide +kernel) (by decide +kernel)
set_option maxRecDepth 20000 in
theorem gX8_parish_X8_isParish : GoodIn wsX8_parish (va_wsS RX8 71 yX8_isParish wsX8_isParish) := goodIn_app (goodIn_of _ (by decide +kernel)) ggX8_parish_X8_isParish
set_option maxRecDepth 20000 in
theorem ggX8_parish_X8_isWay : GoodIn wsX8_parish wsX8_isWay := goodIn_r _ [11, 6, 7, 4, 8] (by decide +kernel) (by decide +kernel)
set_option maxRecDepth 20000 in
theorem gX8_parish_X8_isWay : GoodIn wsX8_parish (va_wsS RX8 75 yX8_isWay wsX8_isWay) := goodIn_app (goodIn_of _ (by decide +kernel)) ggX8_parish_X8_isWay
set_option maxRecDepth 20000 in
theorem ggX8_parish_X8_isUpTo : GoodIn wsX8_parish wsX8_isUpTo := goodIn_r _ [8] (by decide +kernel) (by decide +kernel)
set_option maxRecDepth 20000 in
theorem gX8_parish_X8_isUpTo : GoodIn wsX8_parish (va_wsS RX8 78 yX8_isUpTo wsX8_isUpTo) := goodIn_app (goodIn_of _ (by decide +kernel)) ggX8_parish_X8_isUpTo
set_option maxRecDepth 20000 in
theorem ggX8_parish_X7_settle : GoodIn wsX8_parish wsX7_settle := goodIn_r _ [16, 17, 18, 19, 20, 3, 4, 5, 6, 7, 8, 21, 22, 45, 46, 47, 48, 49, 50, 51, 52, 53, 54, 55, 56] (by decide +kernel) (by decide +kernel)
set_option maxRecDepth 20000 in
theorem gX8_parish_X7_settle : GoodIn wsX8_parish (wsV RX8 82 RX7 yX7_settle wsX7_settle) := goodIn_app (goodIn_of _ (by decide +kernel)) ggX8_parish_X7_settle
set_option maxRecDepth 20000 in
theorem ggX8_parish_X7_parishesThere : GoodIn wsX8_parish wsX7_parishesThere := goodIn_r _ [26, 17, 27, 28, 29, 30, 31, 32, 33, 45, 46, 47, 48, 49, 50, 51, 52, 53, 54, 55, 56] (by decide +kernel) (by decide +kernel)
set_option maxRecDepth 20000 in
theorem gX8_parish_X7_parishesThere : GoodIn wsX8_parish (wsV RX8 86 RX7 yX7_parishesThere wsX7_parishesThere) := goodIn_app (goodIn_of _ (by decide +kernel)) ggX8_parish_X7_parishesThere
theorem dX8_parish_0 : decode cX8_parish 0 = .ok (.iload_n 1, 1) := by decide +kernel
theorem dX8_parish_1 : decode cX8_parish 1 = .ok (.invokestatic 71, 3) := by decide +kernel
theorem dX8_parish_4 : decode cX8_parish 4 = .ok (.ifCond .ne 5, 3) := by decide +kernel
theorem dX8_parish_7 : decode cX8_parish 7 = .ok (.iconst (-1), 1) := by decide +kernel
theorem dX8_parish_8 : decode cX8_parish 8 = .ok (.ireturn, 1) := by decide +kernel
theorem dX8_parish_9 : decode cX8_parish 9 = .ok (.iload_n 2, 1) := by decide +kernel
theorem dX8_parish_10 : decode cX8_parish 10 = .ok (.invokestatic 75, 3) := by decide +kernel
theorem dX8_parish_13 : decode cX8_parish 13 = .ok (.ifCond .eq 13, 3) := by decide +kernel
theorem dX8_parish_16 : decode cX8_parish 16 = .ok (.iload 4, 2) := by decide +kernel
theorem dX8_parish_18 : decode cX8_parish 18 = .ok (.bipush 9, 2) := by decide +kernel
theorem dX8_parish_20 : decode cX8_parish 20 = .ok (.invokestatic 78, 3) := by decide +kernel
theorem dX8_parish_23 : decode cX8_parish 23 = .ok (.ifCond .ne 6, 3) := by decide +kernel
theorem dX8_parish_26 : decode cX8_parish 26 = .ok (.bipush (-2), 2) := by decide +kernel
theorem dX8_parish_28 : decode cX8_parish 28 = .ok (.ireturn, 1) := by decide +kernel
theorem dX8_parish_29 : decode cX8_parish 29 = .ok (.aload_n 0, 1) := by decide +kernel
theorem dX8_parish_30 : decode cX8_parish 30 = .ok (.getfield 10, 3) := by decide +kernel
theorem dX8_parish_33 : decode cX8_parish 33 = .ok (.iload_n 1, 1) := by decide +kernel
theorem dX8_parish_34 : decode cX8_parish 34 = .ok (.iload_n 2, 1) := by decide +kernel
theorem dX8_parish_35 : decode cX8_parish 35 = .ok (.iload_n 3, 1) := by decide +kernel
theorem dX8_parish_36 : decode cX8_parish 36 = .ok (.iload 4, 2) := by decide +kernel
theorem dX8_parish_38 : decode cX8_parish 38 = .ok (.invokevirtual 82, 3) := by decide +kernel
theorem dX8_parish_41 : decode cX8_parish 41 = .ok (.aload_n 0, 1) := by decide +kernel
theorem dX8_parish_42 : decode cX8_parish 42 = .ok (.getfield 10, 3) := by decide +kernel
theorem dX8_parish_45 : decode cX8_parish 45 = .ok (.invokevirtual 86, 3) := by decide +kernel
theorem dX8_parish_48 : decode cX8_parish 48 = .ok (.ireturn, 1) := by decide +kernel
set_option maxRecDepth 20000 in
theorem ggX8_neighbours_X8_isParish : GoodIn wsX8_neighbours wsX8_isParish := goodIn_r _ [5, 6, 7, 4, 8] (by decide +kernel) (by decide +kernel)
set_option maxRecDepth 20000 in
theorem gX8_neighbours_X8_isParish : GoodIn wsX8_neighbours (va_wsS RX8 71 yX8_isParish wsX8_isParish) := goodIn_app (goodIn_of _ (by decide +kernel)) ggX8_neighbours_X8_isParish
set_option maxRecDepth 20000 in
theorem ggX8_neighbours_X8_withBit : GoodIn wsX8_neighbours wsX8_withBit := goodIn_r _ [11] (by decide +kernel) (by decide +kernel)
set_option maxRecDepth 20000 in
theorem gX8_neighbours_X8_withBit : GoodIn wsX8_neighbours (va_wsS RX8 94 yX8_withBit wsX8_withBit) := goodIn_app (goodIn_of _ (by decide +kernel)) ggX8_neighbours_X8_withBit
set_option maxRecDepth 20000 in
theorem ggX8_neighbours_X7_pairsOfNeighbours : GoodIn wsX8_neighbours wsX7_pairsOfNeighbours := goodIn_r _ [16, 17, 18, 19, 20, 21, 22, 23, 24, 36, 37, 38, 39, 40, 41, 42, 43, 44, 45, 46, 47] (by decide +kernel) (by decide +kernel)
set_option maxRecDepth 20000 in
theorem gX8_neighbours_X7_pairsOfNeighbours : GoodIn wsX8_neighbours (wsV RX8 98 RX7 yX7_pairsOfNeighbours wsX7_pairsOfNeighbours) := goodIn_app (goodIn_of _ (by decide +kernel)) ggX8_neighbours_X7_pairsOfNeighbours
theorem dX8_neighbours_0 : decode cX8_neighbours 0 = .ok (.iload_n 1, 1) := by decide +kernel
theorem dX8_neighbours_1 : decode cX8_neighbours 1 = .ok (.invokestatic 71, 3) := by decide +kernel
theorem dX8_neighbours_4 : decode cX8_neighbours 4 = .ok (.ifCond .eq 15, 3) := by decide +kernel
theorem dX8_neighbours_7 : decode cX8_neighbours 7 = .ok (.iload_n 2, 1) := by decide +kernel
theorem dX8_neighbours_8 : decode cX8_neighbours 8 = .ok (.invokestatic 71, 3) := by decide +kernel
theorem dX8_neighbours_11 : decode cX8_neighbours 11 = .ok (.ifCond .eq 8, 3) := by decide +kernel
theorem dX8_neighbours_14 : decode cX8_neighbours 14 = .ok (.iload_n 1, 1) := by decide +kernel
theorem dX8_neighbours_15 : decode cX8_neighbours 15 = .ok (.iload_n 2, 1) := by decide +kernel
theorem dX8_neighbours_16 : decode cX8_neighbours 16 = .ok (.if_icmp .ne 5, 3) := by decide +kernel
theorem dX8_neighbours_19 : decode cX8_neighbours 19 = .ok (.iconst (-1), 1) := by decide +kernel
theorem dX8_neighbours_20 : decode cX8_neighbours 20 = .ok (.ireturn, 1) := by decide +kernel
theorem dX8_neighbours_21 : decode cX8_neighbours 21 = .ok (.aload_n 0, 1) := by decide +kernel
theorem dX8_neighbours_22 : decode cX8_neighbours 22 = .ok (.getfield 10, 3) := by decide +kernel
theorem dX8_neighbours_25 : decode cX8_neighbours 25 = .ok (.getfield 90, 3) := by decide +kernel
theorem dX8_neighbours_28 : decode cX8_neighbours 28 = .ok (.iload_n 1, 1) := by decide +kernel
theorem dX8_neighbours_29 : decode cX8_neighbours 29 = .ok (.aload_n 0, 1) := by decide +kernel
theorem dX8_neighbours_30 : decode cX8_neighbours 30 = .ok (.getfield 10, 3) := by decide +kernel
theorem dX8_neighbours_33 : decode cX8_neighbours 33 = .ok (.getfield 90, 3) := by decide +kernel
theorem dX8_neighbours_36 : decode cX8_neighbours 36 = .ok (.iload_n 1, 1) := by decide +kernel
theorem dX8_neighbours_37 : decode cX8_neighbours 37 = .ok (.iaload, 1) := by decide +kernel
theorem dX8_neighbours_38 : decode cX8_neighbours 38 = .ok (.iload_n 2, 1) := by decide +kernel
theorem dX8_neighbours_39 : decode cX8_neighbours 39 = .ok (.iload_n 3, 1) := by decide +kernel
theorem dX8_neighbours_40 : decode cX8_neighbours 40 = .ok (.invokestatic 94, 3) := by decide +kernel
theorem dX8_neighbours_43 : decode cX8_neighbours 43 = .ok (.iastore, 1) := by decide +kernel
theorem dX8_neighbours_44 : decode cX8_neighbours 44 = .ok (.aload_n 0, 1) := by decide +kernel
theorem dX8_neighbours_45 : decode cX8_neighbours 45 = .ok (.getfield 10, 3) := by decide +kernel
theorem dX8_neighbours_48 : decode cX8_neighbours 48 = .ok (.getfield 90, 3) := by decide +kernel
theorem dX8_neighbours_51 : decode cX8_neighbours 51 = .ok (.iload_n 2, 1) := by decide +kernel
theorem dX8_neighbours_52 : decode cX8_neighbours 52 = .ok (.aload_n 0, 1) := by decide +kernel
theorem dX8_neighbours_53 : decode cX8_neighbours 53 = .ok (.getfield 10, 3) := by decide +kernel
theorem dX8_neighbours_56 : decode cX8_neighbours 56 = .ok (.getfield 90, 3) := by decide +kernel
theorem dX8_neighbours_59 : decode cX8_neighbours 59 = .ok (.iload_n 2, 1) := by decide +kernel
theorem dX8_neighbours_60 : decode cX8_neighbours 60 = .ok (.iaload, 1) := by decide +kernel
theorem dX8_neighbours_61 : decode cX8_neighbours 61 = .ok (.iload_n 1, 1) := by decide +kernel
theorem dX8_neighbours_62 : decode cX8_neighbours 62 = .ok (.iload_n 3, 1) := by decide +kernel
theorem dX8_neighbours_63 : decode cX8_neighbours 63 = .ok (.invokestatic 94, 3) := by decide +kernel
theorem dX8_neighbours_66 : decode cX8_neighbours 66 = .ok (.iastore, 1) := by decide +kernel
theorem dX8_neighbours_67 : decode cX8_neighbours 67 = .ok (.aload_n 0, 1) := by decide +kernel
theorem dX8_neighbours_68 : decode cX8_neighbours 68 = .ok (.getfield 10, 3) := by decide +kernel
theorem dX8_neighbours_71 : decode cX8_neighbours 71 = .ok (.invokevirtual 98, 3) := by decide +kernel
theorem dX8_neighbours_74 : decode cX8_neighbours 74 = .ok (.ireturn, 1) := by decide +kernel
set_option maxRecDepth 20000 in
theorem ggX8_weather_X8_isWay : GoodIn wsX8_weather wsX8_isWay := goodIn_r _ [5, 6, 7, 4, 8] (by decide +kernel) (by decide +kernel)
set_option maxRecDepth 20000 in
theorem gX8_weather_X8_isWay : GoodIn wsX8_weather (va_wsS RX8 75 yX8_isWay wsX8_isWay) := goodIn_app (goodIn_of _ (by decide +kernel)) ggX8_weather_X8_isWay
set_option maxRecDepth 20000 in
theorem ggX8_weather_X8_isUpTo : GoodIn wsX8_weather wsX8_isUpTo := goodIn_r _ [8] (by decide +kernel) (by decide +kernel)
set_option maxRecDepth 20000 in
theorem gX8_weather_X8_isUpTo : GoodIn wsX8_weather (va_wsS RX8 78 yX8_isUpTo wsX8_isUpTo) := goodIn_app (goodIn_of _ (by decide +kernel)) ggX8_weather_X8_isUpTo
theorem dX8_weather_0 : decode cX8_weather 0 = .ok (.iload_n 1, 1) := by decide +kernel
theorem dX8_weather_1 : decode cX8_weather 1 = .ok (.invokestatic 75, 3) := by decide +kernel
theorem dX8_weather_4 : decode cX8_weather 4 = .ok (.ifCond .eq 12, 3) := by decide +kernel
theorem dX8_weather_7 : decode cX8_weather 7 = .ok (.iload_n 2, 1) := by decide +kernel
theorem dX8_weather_8 : decode cX8_weather 8 = .ok (.bipush 9, 2) := by decide +kernel
theorem dX8_weather_10 : decode cX8_weather 10 = .ok (.invokestatic 78, 3) := by decide +kernel
theorem dX8_weather_13 : decode cX8_weather 13 = .ok (.ifCond .ne 6, 3) := by decide +kernel
theorem dX8_weather_16 : decode cX8_weather 16 = .ok (.bipush (-2), 2) := by decide +kernel
theorem dX8_weather_18 : decode cX8_weather 18 = .ok (.ireturn, 1) := by decide +kernel
theorem dX8_weather_19 : decode cX8_weather 19 = .ok (.bipush 10, 2) := by decide +kernel
theorem dX8_weather_21 : decode cX8_weather 21 = .ok (.aload_n 0, 1) := by decide +kernel
theorem dX8_weather_22 : decode cX8_weather 22 = .ok (.getfield 10, 3) := by decide +kernel
theorem dX8_weather_25 : decode cX8_weather 25 = .ok (.getfield 101, 3) := by decide +kernel
theorem dX8_weather_28 : decode cX8_weather 28 = .ok (.imul, 1) := by decide +kernel
theorem dX8_weather_29 : decode cX8_weather 29 = .ok (.aload_n 0, 1) := by decide +kernel
theorem dX8_weather_30 : decode cX8_weather 30 = .ok (.getfield 10, 3) := by decide +kernel
theorem dX8_weather_33 : decode cX8_weather 33 = .ok (.getfield 105, 3) := by decide +kernel
theorem dX8_weather_36 : decode cX8_weather 36 = .ok (.iadd, 1) := by decide +kernel
theorem dX8_weather_37 : decode cX8_weather 37 = .ok (.istore_n 3, 1) := by decide +kernel
theorem dX8_weather_38 : decode cX8_weather 38 = .ok (.aload_n 0, 1) := by decide +kernel
theorem dX8_weather_39 : decode cX8_weather 39 = .ok (.getfield 10, 3) := by decide +kernel
theorem dX8_weather_42 : decode cX8_weather 42 = .ok (.iload_n 1, 1) := by decide +kernel
theorem dX8_weather_43 : decode cX8_weather 43 = .ok (.putfield 101, 3) := by decide +kernel
theorem dX8_weather_46 : decode cX8_weather 46 = .ok (.aload_n 0, 1) := by decide +kernel
theorem dX8_weather_47 : decode cX8_weather 47 = .ok (.getfield 10, 3) := by decide +kernel
theorem dX8_weather_50 : decode cX8_weather 50 = .ok (.iload_n 2, 1) := by decide +kernel
theorem dX8_weather_51 : decode cX8_weather 51 = .ok (.putfield 105, 3) := by decide +kernel
theorem dX8_weather_54 : decode cX8_weather 54 = .ok (.iload_n 3, 1) := by decide +kernel
theorem dX8_weather_55 : decode cX8_weather 55 = .ok (.ireturn, 1) := by decide +kernel
set_option maxRecDepth 20000 in
theorem ggX8_creed_X8_isUpTo : GoodIn wsX8_creed wsX8_isUpTo := goodIn_r _ [5] (by decide +kernel) (by decide +kernel)
set_option maxRecDepth 20000 in
theorem gX8_creed_X8_isUpTo : GoodIn wsX8_creed (va_wsS RX8 78 yX8_isUpTo wsX8_isUpTo) := goodIn_app (goodIn_of _ (by decide +kernel)) ggX8_creed_X8_isUpTo
theorem dX8_creed_0 : decode cX8_creed 0 = .ok (.iload_n 1, 1) := by decide +kernel
theorem dX8_creed_1 : decode cX8_creed 1 = .ok (.sipush 255, 3) := by decide +kernel
theorem dX8_creed_4 : decode cX8_creed 4 = .ok (.invokestatic 78, 3) := by decide +kernel
theorem dX8_creed_7 : decode cX8_creed 7 = .ok (.ifCond .ne 6, 3) := by decide +kernel
theorem dX8_creed_10 : decode cX8_creed 10 = .ok (.bipush (-2), 2) := by decide +kernel
theorem dX8_creed_12 : decode cX8_creed 12 = .ok (.ireturn, 1) := by decide +kernel
theorem dX8_creed_13 : decode cX8_creed 13 = .ok (.aload_n 0, 1) := by decide +kernel
theorem dX8_creed_14 : decode cX8_creed 14 = .ok (.getfield 10, 3) := by decide +kernel
theorem dX8_creed_17 : decode cX8_creed 17 = .ok (.getfield 108, 3) := by decide +kernel
theorem dX8_creed_20 : decode cX8_creed 20 = .ok (.istore_n 2, 1) := by decide +kernel
theorem dX8_creed_21 : decode cX8_creed 21 = .ok (.aload_n 0, 1) := by decide +kernel
theorem dX8_creed_22 : decode cX8_creed 22 = .ok (.getfield 10, 3) := by decide +kernel
theorem dX8_creed_25 : decode cX8_creed 25 = .ok (.iload_n 1, 1) := by decide +kernel
theorem dX8_creed_26 : decode cX8_creed 26 = .ok (.putfield 108, 3) := by decide +kernel
theorem dX8_creed_29 : decode cX8_creed 29 = .ok (.iload_n 2, 1) := by decide +kernel
theorem dX8_creed_30 : decode cX8_creed 30 = .ok (.ireturn, 1) := by decide +kernel
set_option maxRecDepth 20000 in
theorem ggX8_say_X3_write : GoodIn wsX8_say wsX3_write := goodIn_r _ [6, 7, 8, 20, 21, 22, 23, 24, 25] (by decide +kernel) (by decide +kernel)
set_option maxRecDepth 20000 in
theorem gX8_say_X3_write : GoodIn wsX8_say (wsV RX8 111 RX3 yX3_write wsX3_write) := goodIn_app (goodIn_of _ (by decide +kernel)) ggX8_say_X3_write
theorem dX8_say_0 : decode cX8_say 0 = .ok (.iload_n 1, 1) := by decide +kernel
theorem dX8_say_1 : decode cX8_say 1 = .ok (.bipush 33, 2) := by decide +kernel
theorem dX8_say_3 : decode cX8_say 3 = .ok (.if_icmp .lt 9, 3) := by decide +kernel
theorem dX8_say_6 : decode cX8_say 6 = .ok (.iload_n 1, 1) := by decide +kernel
theorem dX8_say_7 : decode cX8_say 7 = .ok (.bipush 126, 2) := by decide +kernel
theorem dX8_say_9 : decode cX8_say 9 = .ok (.if_icmp .le 6, 3) := by decide +kernel
theorem dX8_say_12 : decode cX8_say 12 = .ok (.bipush (-2), 2) := by decide +kernel
theorem dX8_say_14 : decode cX8_say 14 = .ok (.ireturn, 1) := by decide +kernel
theorem dX8_say_15 : decode cX8_say 15 = .ok (.aload_n 0, 1) := by decide +kernel
theorem dX8_say_16 : decode cX8_say 16 = .ok (.getfield 25, 3) := by decide +kernel
theorem dX8_say_19 : decode cX8_say 19 = .ok (.iload_n 1, 1) := by decide +kernel
theorem dX8_say_20 : decode cX8_say 20 = .ok (.invokevirtual 111, 3) := by decide +kernel
theorem dX8_say_23 : decode cX8_say 23 = .ok (.ifCond .eq 13, 3) := by decide +kernel
theorem dX8_say_26 : decode cX8_say 26 = .ok (.aload_n 0, 1) := by decide +kernel
theorem dX8_say_27 : decode cX8_say 27 = .ok (.getfield 25, 3) := by decide +kernel
theorem dX8_say_30 : decode cX8_say 30 = .ok (.getfield 114, 3) := by decide +kernel
theorem dX8_say_33 : decode cX8_say 33 = .ok (.goto 5, 3) := by decide +kernel
theorem dX8_say_36 : decode cX8_say 36 = .ok (.bipush (-4), 2) := by decide +kernel
theorem dX8_say_38 : decode cX8_say 38 = .ok (.ireturn, 1) := by decide +kernel
theorem dX8_wipe_0 : decode cX8_wipe 0 = .ok (.aload_n 0, 1) := by decide +kernel
theorem dX8_wipe_1 : decode cX8_wipe 1 = .ok (.getfield 25, 3) := by decide +kernel
theorem dX8_wipe_4 : decode cX8_wipe 4 = .ok (.getfield 114, 3) := by decide +kernel
theorem dX8_wipe_7 : decode cX8_wipe 7 = .ok (.istore_n 1, 1) := by decide +kernel
theorem dX8_wipe_8 : decode cX8_wipe 8 = .ok (.aload_n 0, 1) := by decide +kernel
theorem dX8_wipe_9 : decode cX8_wipe 9 = .ok (.getfield 25, 3) := by decide +kernel
theorem dX8_wipe_12 : decode cX8_wipe 12 = .ok (.iconst 0, 1) := by decide +kernel
theorem dX8_wipe_13 : decode cX8_wipe 13 = .ok (.putfield 114, 3) := by decide +kernel
theorem dX8_wipe_16 : decode cX8_wipe 16 = .ok (.iload_n 1, 1) := by decide +kernel
theorem dX8_wipe_17 : decode cX8_wipe 17 = .ok (.ireturn, 1) := by decide +kernel
set_option maxRecDepth 20000 in
theorem ggX8_fault_X3_read : GoodIn wsX8_fault wsX3_read := goodIn_r _ [6, 7, 8, 9, 10, 11, 5, 12, 13, 14, 15, 16, 17, 18, 19, 20, 21, 22, 23, 24, 25, 26, 27, 28, 29, 30, 42, 43, 44, 45, 46, 47] (by decide +kernel) (by decide +kernel)
set_option maxRecDepth 20000 in
theorem gX8_fault_X3_read : GoodIn wsX8_fault (wsV RX8 117 RX3 yX3_read wsX3_read) := goodIn_app (goodIn_of _ (by decide +kernel)) ggX8_fault_X3_read
theorem dX8_fault_0 : decode cX8_fault 0 = .ok (.aload_n 0, 1) := by decide +kernel
theorem dX8_fault_1 : decode cX8_fault 1 = .ok (.getfield 25, 3) := by decide +kernel
theorem dX8_fault_4 : decode cX8_fault 4 = .ok (.invokevirtual 117, 3) := by decide +kernel
theorem dX8_fault_7 : decode cX8_fault 7 = .ok (.ireturn, 1) := by decide +kernel
set_option maxRecDepth 20000 in
theorem ggX8_judge_X8_isUpTo : GoodIn wsX8_judge wsX8_isUpTo := goodIn_r _ [7] (by decide +kernel) (by decide +kernel)
set_option maxRecDepth 20000 in
theorem gX8_judge_X8_isUpTo : GoodIn wsX8_judge (va_wsS RX8 78 yX8_isUpTo wsX8_isUpTo) := goodIn_app (goodIn_of _ (by decide +kernel)) ggX8_judge_X8_isUpTo
set_option maxRecDepth 20000 in
theorem ggX8_judge_X6_tryAll : GoodIn wsX8_judge wsX6_tryAll := goodIn_r _ [12, 13, 14, 15, 16, 17, 18, 19, 20, 21, 22, 23, 24, 6, 25, 4, 5, 7, 26, 27, 28, 29, 30, 31, 32, 33, 34, 35, 36, 37, 38, 39, 40, 11, 41, 42, 43, 44, 45, 46, 47, 48, 49, 50, 51, 52, 53, 54, 55, 56, 57, 58, 59, 60, 61, 62, 63, 64, 65, 66, 67, 68, 69, 70, 71, 72, 73, 74, 75, 76, 77, 78, 79, 80, 81, 82, 83, 84, 85, 86, 87, 88, 89, 90, 91, 92, 93, 94, 95, 96, 97, 98, 99, 100, 101, 102, 103, 104, 105, 106, 107, 108, 109, 110, 111, 112, 113, 114, 115, 116, 117, 118, 119, 120, 121, 122, 123, 124, 125, 126, 142, 143, 144, 145, 146, 147, 138, 139, 140, 141, 148, 149, 150, 151, 152, 153, 154, 155, 156, 157, 158, 159] (by decide +kernel) (by decide +kernel)
set_option maxRecDepth 20000 in
theorem gX8_judge_X6_tryAll : GoodIn wsX8_judge (wsV RX8 120 RX6 yX6_tryAll wsX6_tryAll) := goodIn_app (goodIn_of _ (by decide +kernel)) ggX8_judge_X6_tryAll
theorem dX8_judge_0 : decode cX8_judge 0 = .ok (.iload_n 1, 1) := by decide +kernel
theorem dX8_judge_1 : decode cX8_judge 1 = .ok (.iconst 1, 1) := by decide +kernel
theorem dX8_judge_2 : decode cX8_judge 2 = .ok (.invokestatic 78, 3) := by decide +kernel
theorem dX8_judge_5 : decode cX8_judge 5 = .ok (.ifCond .ne 6, 3) := by decide +kernel
theorem dX8_judge_8 : decode cX8_judge 8 = .ok (.bipush (-2), 2) := by decide +kernel
theorem dX8_judge_10 : decode cX8_judge 10 = .ok (.ireturn, 1) := by decide +kernel
theorem dX8_judge_11 : decode cX8_judge 11 = .ok (.aload_n 0, 1) := by decide +kernel
theorem dX8_judge_12 : decode cX8_judge 12 = .ok (.getfield 32, 3) := by decide +kernel
theorem dX8_judge_15 : decode cX8_judge 15 = .ok (.aload_n 0, 1) := by decide +kernel
theorem dX8_judge_16 : decode cX8_judge 16 = .ok (.getfield 25, 3) := by decide +kernel
theorem dX8_judge_19 : decode cX8_judge 19 = .ok (.aload_n 0, 1) := by decide +kernel
theorem dX8_judge_20 : decode cX8_judge 20 = .ok (.getfield 10, 3) := by decide +kernel
theorem dX8_judge_23 : decode cX8_judge 23 = .ok (.invokevirtual 120, 3) := by decide +kernel
theorem dX8_judge_26 : decode cX8_judge 26 = .ok (.istore_n 2, 1) := by decide +kernel
theorem dX8_judge_27 : decode cX8_judge 27 = .ok (.iload_n 2, 1) := by decide +kernel
theorem dX8_judge_28 : decode cX8_judge 28 = .ok (.bipush (-5), 2) := by decide +kernel
theorem dX8_judge_30 : decode cX8_judge 30 = .ok (.if_icmp .ne 6, 3) := by decide +kernel
theorem dX8_judge_33 : decode cX8_judge 33 = .ok (.bipush (-5), 2) := by decide +kernel
theorem dX8_judge_35 : decode cX8_judge 35 = .ok (.ireturn, 1) := by decide +kernel
theorem dX8_judge_36 : decode cX8_judge 36 = .ok (.iload_n 2, 1) := by decide +kernel
theorem dX8_judge_37 : decode cX8_judge 37 = .ok (.ifCond .ne 6, 3) := by decide +kernel
theorem dX8_judge_40 : decode cX8_judge 40 = .ok (.bipush (-6), 2) := by decide +kernel
theorem dX8_judge_42 : decode cX8_judge 42 = .ok (.ireturn, 1) := by decide +kernel
theorem dX8_judge_43 : decode cX8_judge 43 = .ok (.iload_n 1, 1) := by decide +kernel
theorem dX8_judge_44 : decode cX8_judge 44 = .ok (.ifCond .ne 13, 3) := by decide +kernel
theorem dX8_judge_47 : decode cX8_judge 47 = .ok (.aload_n 0, 1) := by decide +kernel
theorem dX8_judge_48 : decode cX8_judge 48 = .ok (.getfield 32, 3) := by decide +kernel
theorem dX8_judge_51 : decode cX8_judge 51 = .ok (.getfield 124, 3) := by decide +kernel
theorem dX8_judge_54 : decode cX8_judge 54 = .ok (.goto 4, 3) := by decide +kernel
theorem dX8_judge_57 : decode cX8_judge 57 = .ok (.iload_n 2, 1) := by decide +kernel
theorem dX8_judge_58 : decode cX8_judge 58 = .ok (.ireturn, 1) := by decide +kernel
set_option maxRecDepth 20000 in
theorem ggX8_done_X6_tryAll : GoodIn wsX8_done wsX6_tryAll := goodIn_r _ [8, 9, 10, 11, 12, 13, 14, 15, 16, 17, 18, 19, 20, 21, 22, 23, 24, 25, 26, 27, 28, 29, 30, 31, 32, 33, 34, 35, 36, 37, 38, 39, 40, 7, 41, 42, 43, 44, 45, 46, 47, 48, 49, 50, 51, 52, 53, 54, 55, 56, 57, 58, 59, 60, 61, 62, 63, 64, 65, 66, 67, 68, 69, 70, 71, 72, 73, 74, 75, 76, 77, 78, 79, 80, 81, 82, 83, 84, 85, 86, 87, 88, 89, 90, 91, 92, 93, 94, 95, 96, 97, 98, 99, 100, 101, 102, 103, 104, 105, 106, 107, 108, 109, 110, 111, 112, 113, 114, 115, 116, 117, 118, 119, 120, 121, 122, 123, 124, 125, 126, 143, 144, 145, 146, 147, 148, 139, 140, 141, 142, 149, 150, 151, 152, 153, 154, 155, 156, 157, 158, 159, 160] (by decide +kernel) (by decide +kernel)
set_option maxRecDepth 20000 in
theorem gX8_done_X6_tryAll : GoodIn wsX8_done (wsV RX8 120 RX6 yX6_tryAll wsX6_tryAll) := goodIn_app (goodIn_of _ (by decide +kernel)) ggX8_done_X6_tryAll
set_option maxRecDepth 20000 in
theorem ggX8_done_X7_becomeLike : GoodIn wsX8_done wsX7_becomeLike := goodIn_r _ [50, 51, 52, 53, 54, 55, 56, 57, 58, 59, 60, 61, 62, 149, 150, 151, 152, 153, 154, 155, 156, 157, 158, 159, 160] (by decide +kernel) (by decide +kernel)
set_option maxRecDepth 20000 in
theorem gX8_done_X7_becomeLike : GoodIn wsX8_done (wsV RX8 130 RX7 yX7_becomeLike wsX7_becomeLike) := goodIn_app (goodIn_of _ (by decide +kernel)) ggX8_done_X7_becomeLike
theorem dX8_done_0 : decode cX8_done 0 = .ok (.aload_n 0, 1) := by decide +kernel
theorem dX8_done_1 : decode cX8_done 1 = .ok (.getfield 32, 3) := by decide +kernel
theorem dX8_done_4 : decode cX8_done 4 = .ok (.aload_n 0, 1) := by decide +kernel
theorem dX8_done_5 : decode cX8_done 5 = .ok (.getfield 25, 3) := by decide +kernel
theorem dX8_done_8 : decode cX8_done 8 = .ok (.aload_n 0, 1) := by decide +kernel
theorem dX8_done_9 : decode cX8_done 9 = .ok (.getfield 10, 3) := by decide +kernel
theorem dX8_done_12 : decode cX8_done 12 = .ok (.invokevirtual 120, 3) := by decide +kernel
theorem dX8_done_15 : decode cX8_done 15 = .ok (.ifCond .eq 6, 3) := by decide +kernel
theorem dX8_done_18 : decode cX8_done 18 = .ok (.bipush (-5), 2) := by decide +kernel
theorem dX8_done_20 : decode cX8_done 20 = .ok (.ireturn, 1) := by decide +kernel
theorem dX8_done_21 : decode cX8_done 21 = .ok (.aload_n 0, 1) := by decide +kernel
theorem dX8_done_22 : decode cX8_done 22 = .ok (.getfield 10, 3) := by decide +kernel
theorem dX8_done_25 : decode cX8_done 25 = .ok (.aload_n 0, 1) := by decide +kernel
theorem dX8_done_26 : decode cX8_done 26 = .ok (.getfield 32, 3) := by decide +kernel
theorem dX8_done_29 : decode cX8_done 29 = .ok (.getfield 127, 3) := by decide +kernel
theorem dX8_done_32 : decode cX8_done 32 = .ok (.invokevirtual 130, 3) := by decide +kernel
theorem dX8_done_35 : decode cX8_done 35 = .ok (.aload_n 0, 1) := by decide +kernel
theorem dX8_done_36 : decode cX8_done 36 = .ok (.getfield 25, 3) := by decide +kernel
theorem dX8_done_39 : decode cX8_done 39 = .ok (.iconst 0, 1) := by decide +kernel
theorem dX8_done_40 : decode cX8_done 40 = .ok (.putfield 114, 3) := by decide +kernel
theorem dX8_done_43 : decode cX8_done 43 = .ok (.aload_n 0, 1) := by decide +kernel
theorem dX8_done_44 : decode cX8_done 44 = .ok (.getfield 32, 3) := by decide +kernel
theorem dX8_done_47 : decode cX8_done 47 = .ok (.getfield 124, 3) := by decide +kernel
theorem dX8_done_50 : decode cX8_done 50 = .ok (.ireturn, 1) := by decide +kernel
set_option maxRecDepth 20000 in
theorem ggX8_behind_X7_isThere : GoodIn wsX8_behind wsX7_isThere := goodIn_r _ [8, 9, 147, 148, 149, 150, 151, 152, 153, 154, 155, 156, 157, 158] (by decide +kernel) (by decide +kernel)
set_option maxRecDepth 20000 in
theorem gX8_behind_X7_isThere : GoodIn wsX8_behind (wsV RX8 134 RX7 yX7_isThere wsX7_isThere) := goodIn_app (goodIn_of _ (by decide +kernel)) ggX8_behind_X7_isThere
set_option maxRecDepth 20000 in
theorem ggX8_behind_X8_isUpTo : GoodIn wsX8_behind wsX8_isUpTo := goodIn_r _ [13] (by decide +kernel) (by decide +kernel)
set_option maxRecDepth 20000 in
theorem gX8_behind_X8_isUpTo : GoodIn wsX8_behind (va_wsS RX8 78 yX8_isUpTo wsX8_isUpTo) := goodIn_app (goodIn_of _ (by decide +kernel)) ggX8_behind_X8_isUpTo
set_option maxRecDepth 20000 in
theorem ggX8_behind_X6_tryAll : GoodIn wsX8_behind wsX6_tryAll := goodIn_r _ [18, 19, 20, 21, 22, 23, 24, 25, 26, 27, 28, 29, 30, 12, 31, 10, 11, 13, 32, 33, 34, 35, 36, 37, 38, 39, 40, 41, 42, 43, 44, 45, 46, 17, 47, 48, 49, 50, 51, 52, 53, 54, 7, 55, 56, 57, 58, 9, 59, 60, 61, 62, 63, 64, 65, 66, 67, 68, 69, 70, 71, 72, 73, 74, 75, 76, 77, 78, 79, 5, 6, 8, 80, 81, 82, 83, 84, 85, 86, 87, 88, 89, 90, 91, 92, 93, 94, 95, 96, 97, 98, 99, 100, 101, 102, 103, 104, 105, 106, 107, 108, 109, 110, 111, 112, 113, 114, 115, 116, 117, 118, 119, 120, 121, 122, 123, 124, 125, 126, 127, 159, 160, 161, 162, 163, 164, 143, 144, 145, 146, 147, 148, 149, 150, 151, 152, 153, 154, 155, 156, 157, 158] (by decide +kernel) (by decide +kernel)
set_option maxRecDepth 20000 in
theorem gX8_behind_X6_tryAll : GoodIn wsX8_behind (wsV RX8 120 RX6 yX6_tryAll wsX6_tryAll) := goodIn_app (goodIn_of _ (by decide +kernel)) ggX8_behind_X6_tryAll
set_option maxRecDepth 20000 in
theorem ggX8_behind_X7_tell : GoodIn wsX8_behind wsX7_tell := goodIn_r _ [131, 56, 57, 59, 79, 5, 6, 7, 8, 9, 80, 12, 81, 147, 148, 149, 150, 151, 152, 153, 154, 155, 156, 157, 158] (by decide +kernel) (by decide +kernel)
set_option maxRecDepth 20000 in
theorem gX8_behind_X7_tell : GoodIn wsX8_behind (wsV RX8 137 RX7 yX7_tell wsX7_tell) := goodIn_app (goodIn_of _ (by decide +kernel)) ggX8_behind_X7_tell
theorem dX8_behind_0 : decode cX8_behind 0 = .ok (.aload_n 0, 1) := by decide +kernel
theorem dX8_behind_1 : decode cX8_behind 1 = .ok (.getfield 10, 3) := by decide +kernel
theorem dX8_behind_4 : decode cX8_behind 4 = .ok (.iload_n 1, 1) := by decide +kernel
theorem dX8_behind_5 : decode cX8_behind 5 = .ok (.invokevirtual 134, 3) := by decide +kernel
theorem dX8_behind_8 : decode cX8_behind 8 = .ok (.ifCond .ne 5, 3) := by decide +kernel
theorem dX8_behind_11 : decode cX8_behind 11 = .ok (.iconst (-1), 1) := by decide +kernel
theorem dX8_behind_12 : decode cX8_behind 12 = .ok (.ireturn, 1) := by decide +kernel
theorem dX8_behind_13 : decode cX8_behind 13 = .ok (.iload_n 2, 1) := by decide +kernel
theorem dX8_behind_14 : decode cX8_behind 14 = .ok (.iconst 2, 1) := by decide +kernel
theorem dX8_behind_15 : decode cX8_behind 15 = .ok (.invokestatic 78, 3) := by decide +kernel
theorem dX8_behind_18 : decode cX8_behind 18 = .ok (.ifCond .ne 6, 3) := by decide +kernel
theorem dX8_behind_21 : decode cX8_behind 21 = .ok (.bipush (-2), 2) := by decide +kernel
theorem dX8_behind_23 : decode cX8_behind 23 = .ok (.ireturn, 1) := by decide +kernel
theorem dX8_behind_24 : decode cX8_behind 24 = .ok (.aload_n 0, 1) := by decide +kernel
theorem dX8_behind_25 : decode cX8_behind 25 = .ok (.getfield 32, 3) := by decide +kernel
theorem dX8_behind_28 : decode cX8_behind 28 = .ok (.aload_n 0, 1) := by decide +kernel
theorem dX8_behind_29 : decode cX8_behind 29 = .ok (.getfield 25, 3) := by decide +kernel
theorem dX8_behind_32 : decode cX8_behind 32 = .ok (.aload_n 0, 1) := by decide +kernel
theorem dX8_behind_33 : decode cX8_behind 33 = .ok (.getfield 10, 3) := by decide +kernel
theorem dX8_behind_36 : decode cX8_behind 36 = .ok (.invokevirtual 120, 3) := by decide +kernel
theorem dX8_behind_39 : decode cX8_behind 39 = .ok (.ifCond .ne 18, 3) := by decide +kernel
theorem dX8_behind_42 : decode cX8_behind 42 = .ok (.aload_n 0, 1) := by decide +kernel
theorem dX8_behind_43 : decode cX8_behind 43 = .ok (.getfield 32, 3) := by decide +kernel
theorem dX8_behind_46 : decode cX8_behind 46 = .ok (.getfield 127, 3) := by decide +kernel
theorem dX8_behind_49 : decode cX8_behind 49 = .ok (.iload_n 1, 1) := by decide +kernel
theorem dX8_behind_50 : decode cX8_behind 50 = .ok (.iload_n 2, 1) := by decide +kernel
theorem dX8_behind_51 : decode cX8_behind 51 = .ok (.invokevirtual 137, 3) := by decide +kernel
theorem dX8_behind_54 : decode cX8_behind 54 = .ok (.goto 5, 3) := by decide +kernel
theorem dX8_behind_57 : decode cX8_behind 57 = .ok (.bipush (-5), 2) := by decide +kernel
theorem dX8_behind_59 : decode cX8_behind 59 = .ok (.ireturn, 1) := by decide +kernel
set_option maxRecDepth 20000 in
theorem ggX8_then_X8_isUpTo : GoodIn wsX8_then wsX8_isUpTo := goodIn_r _ [7] (by decide +kernel) (by decide +kernel)
set_option maxRecDepth 20000 in
theorem gX8_then_X8_isUpTo : GoodIn wsX8_then (va_wsS RX8 78 yX8_isUpTo wsX8_isUpTo) := goodIn_app (goodIn_of _ (by decide +kernel)) ggX8_then_X8_isUpTo
set_option maxRecDepth 20000 in
theorem ggX8_then_X6_tryAll : GoodIn wsX8_then wsX6_tryAll := goodIn_r _ [12, 13, 14, 15, 16, 17, 18, 19, 20, 21, 22, 23, 24, 6, 25, 4, 5, 7, 26, 27, 28, 29, 30, 31, 32, 33, 34, 35, 36, 37, 38, 39, 40, 11, 41, 42, 43, 44, 45, 46, 47, 48, 49, 50, 51, 52, 53, 54, 55, 56, 57, 58, 59, 60, 61, 62, 63, 64, 65, 66, 67, 68, 69, 70, 71, 72, 73, 74, 75, 76, 77, 78, 79, 80, 81, 82, 83, 84, 85, 86, 87, 88, 89, 90, 91, 92, 93, 94, 95, 96, 97, 98, 99, 100, 101, 102, 103, 104, 105, 106, 107, 108, 109, 110, 111, 112, 113, 114, 115, 116, 117, 118, 119, 120, 121, 122, 123, 124, 125, 126, 158, 159, 160, 161, 162, 163, 142, 143, 144, 145, 146, 147, 148, 149, 150, 151, 152, 153, 154, 155, 156, 157] (by decide +kernel) (by decide +kernel)
set_option maxRecDepth 20000 in
theorem gX8_then_X6_tryAll : GoodIn wsX8_then (wsV RX8 120 RX6 yX6_tryAll wsX6_tryAll) := goodIn_app (goodIn_of _ (by decide +kernel)) ggX8_then_X6_tryAll
set_option maxRecDepth 20000 in
theorem ggX8_then_X7_mostTired : GoodIn wsX8_then wsX7_mostTired := goodIn_r _ [130, 52, 75, 76, 77, 49, 78, 54, 146, 147, 148, 149, 150, 151, 152, 153, 154, 155, 156, 157] (by decide +kernel) (by decide +kernel)
set_option maxRecDepth 20000 in
theorem gX8_then_X7_mostTired : GoodIn wsX8_then (wsV RX8 144 RX7 yX7_mostTired wsX7_mostTired) := goodIn_app (goodIn_of _ (by decide +kernel)) ggX8_then_X7_mostTired
theorem dX8_then_0 : decode cX8_then 0 = .ok (.iload_n 1, 1) := by decide +kernel
theorem dX8_then_1 : decode cX8_then 1 = .ok (.bipush 6, 2) := by decide +kernel
theorem dX8_then_3 : decode cX8_then 3 = .ok (.invokestatic 78, 3) := by decide +kernel
theorem dX8_then_6 : decode cX8_then 6 = .ok (.ifCond .ne 6, 3) := by decide +kernel
theorem dX8_then_9 : decode cX8_then 9 = .ok (.bipush (-2), 2) := by decide +kernel
theorem dX8_then_11 : decode cX8_then 11 = .ok (.ireturn, 1) := by decide +kernel
theorem dX8_then_12 : decode cX8_then 12 = .ok (.aload_n 0, 1) := by decide +kernel
theorem dX8_then_13 : decode cX8_then 13 = .ok (.getfield 32, 3) := by decide +kernel
theorem dX8_then_16 : decode cX8_then 16 = .ok (.aload_n 0, 1) := by decide +kernel
theorem dX8_then_17 : decode cX8_then 17 = .ok (.getfield 25, 3) := by decide +kernel
theorem dX8_then_20 : decode cX8_then 20 = .ok (.aload_n 0, 1) := by decide +kernel
theorem dX8_then_21 : decode cX8_then 21 = .ok (.getfield 10, 3) := by decide +kernel
theorem dX8_then_24 : decode cX8_then 24 = .ok (.invokevirtual 120, 3) := by decide +kernel
theorem dX8_then_27 : decode cX8_then 27 = .ok (.ifCond .eq 6, 3) := by decide +kernel
theorem dX8_then_30 : decode cX8_then 30 = .ok (.bipush (-5), 2) := by decide +kernel
theorem dX8_then_32 : decode cX8_then 32 = .ok (.ireturn, 1) := by decide +kernel
theorem dX8_then_33 : decode cX8_then 33 = .ok (.aload_n 0, 1) := by decide +kernel
theorem dX8_then_34 : decode cX8_then 34 = .ok (.getfield 32, 3) := by decide +kernel
theorem dX8_then_37 : decode cX8_then 37 = .ok (.getfield 127, 3) := by decide +kernel
theorem dX8_then_40 : decode cX8_then 40 = .ok (.astore_n 2, 1) := by decide +kernel
theorem dX8_then_41 : decode cX8_then 41 = .ok (.iload_n 1, 1) := by decide +kernel
theorem dX8_then_42 : decode cX8_then 42 = .ok (.tableswitch 71 0 5 #[38, 43, 48, 53, 58, 63], 38) := by decide +kernel
theorem dX8_then_80 : decode cX8_then 80 = .ok (.aload_n 2, 1) := by decide +kernel
theorem dX8_then_81 : decode cX8_then 81 = .ok (.getfield 108, 3) := by decide +kernel
theorem dX8_then_84 : decode cX8_then 84 = .ok (.ireturn, 1) := by decide +kernel
theorem dX8_then_85 : decode cX8_then 85 = .ok (.aload_n 2, 1) := by decide +kernel
theorem dX8_then_86 : decode cX8_then 86 = .ok (.getfield 105, 3) := by decide +kernel
theorem dX8_then_89 : decode cX8_then 89 = .ok (.ireturn, 1) := by decide +kernel
theorem dX8_then_90 : decode cX8_then 90 = .ok (.aload_n 2, 1) := by decide +kernel
theorem dX8_then_91 : decode cX8_then 91 = .ok (.getfield 101, 3) := by decide +kernel
theorem dX8_then_94 : decode cX8_then 94 = .ok (.ireturn, 1) := by decide +kernel
theorem dX8_then_95 : decode cX8_then 95 = .ok (.aload_n 2, 1) := by decide +kernel
theorem dX8_then_96 : decode cX8_then 96 = .ok (.getfield 141, 3) := by decide +kernel
theorem dX8_then_99 : decode cX8_then 99 = .ok (.ireturn, 1) := by decide +kernel
theorem dX8_then_100 : decode cX8_then 100 = .ok (.aload_n 2, 1) := by decide +kernel
theorem dX8_then_101 : decode cX8_then 101 = .ok (.invokevirtual 144, 3) := by decide +kernel
theorem dX8_then_104 : decode cX8_then 104 = .ok (.ireturn, 1) := by decide +kernel
theorem dX8_then_105 : decode cX8_then 105 = .ok (.aload_n 0, 1) := by decide +kernel
theorem dX8_then_106 : decode cX8_then 106 = .ok (.getfield 32, 3) := by decide +kernel
theorem dX8_then_109 : decode cX8_then 109 = .ok (.getfield 147, 3) := by decide +kernel
theorem dX8_then_112 : decode cX8_then 112 = .ok (.ireturn, 1) := by decide +kernel
theorem dX8_then_113 : decode cX8_then 113 = .ok (.aload_n 0, 1) := by decide +kernel
theorem dX8_then_114 : decode cX8_then 114 = .ok (.getfield 32, 3) := by decide +kernel
theorem dX8_then_117 : decode cX8_then 117 = .ok (.getfield 150, 3) := by decide +kernel
theorem dX8_then_120 : decode cX8_then 120 = .ok (.ireturn, 1) := by decide +kernel
set_option maxRecDepth 20000 in
theorem ggX8_agrees_X8_isWay : GoodIn wsX8_agrees wsX8_isWay := goodIn_r _ [5, 6, 7, 4, 8] (by decide +kernel) (by decide +kernel)
set_option maxRecDepth 20000 in
theorem gX8_agrees_X8_isWay : GoodIn wsX8_agrees (va_wsS RX8 75 yX8_isWay wsX8_isWay) := goodIn_app (goodIn_of _ (by decide +kernel)) ggX8_agrees_X8_isWay
set_option maxRecDepth 20000 in
theorem ggX8_agrees_X7_agreeing : GoodIn wsX8_agrees wsX7_agreeing := goodIn_r _ [13, 14, 15, 16, 17, 12, 18, 19, 20, 4, 21, 22, 23, 24, 25, 26, 27, 39, 40, 41, 42, 43, 44, 45, 46, 47, 48, 49, 50] (by decide +kernel) (by decide +kernel)
set_option maxRecDepth 20000 in
theorem gX8_agrees_X7_agreeing : GoodIn wsX8_agrees (wsV RX8 153 RX7 yX7_agreeing wsX7_agreeing) := goodIn_app (goodIn_of _ (by decide +kernel)) ggX8_agrees_X7_agreeing
theorem dX8_agrees_0 : decode cX8_agrees 0 = .ok (.iload_n 1, 1) := by decide +kernel
theorem dX8_agrees_1 : decode cX8_agrees 1 = .ok (.invokestatic 75, 3) := by decide +kernel
theorem dX8_agrees_4 : decode cX8_agrees 4 = .ok (.ifCond .eq 14, 3) := by decide +kernel
theorem dX8_agrees_7 : decode cX8_agrees 7 = .ok (.aload_n 0, 1) := by decide +kernel
theorem dX8_agrees_8 : decode cX8_agrees 8 = .ok (.getfield 10, 3) := by decide +kernel
theorem dX8_agrees_11 : decode cX8_agrees 11 = .ok (.iload_n 1, 1) := by decide +kernel
theorem dX8_agrees_12 : decode cX8_agrees 12 = .ok (.invokevirtual 153, 3) := by decide +kernel
theorem dX8_agrees_15 : decode cX8_agrees 15 = .ok (.goto 4, 3) := by decide +kernel
theorem dX8_agrees_18 : decode cX8_agrees 18 = .ok (.iconst (-1), 1) := by decide +kernel
theorem dX8_agrees_19 : decode cX8_agrees 19 = .ok (.ireturn, 1) := by decide +kernel
set_option maxRecDepth 20000 in
theorem ggX8_soon_X8_isWay : GoodIn wsX8_soon wsX8_isWay := goodIn_r _ [6, 7, 8, 5, 9] (by decide +kernel) (by decide +kernel)
set_option maxRecDepth 20000 in
theorem gX8_soon_X8_isWay : GoodIn wsX8_soon (va_wsS RX8 75 yX8_isWay wsX8_isWay) := goodIn_app (goodIn_of _ (by decide +kernel)) ggX8_soon_X8_isWay
set_option maxRecDepth 20000 in
theorem ggX8_soon_X7_becomeLike : GoodIn wsX8_soon wsX7_becomeLike := goodIn_r _ [14, 15, 16, 17, 18, 19, 20, 21, 22, 23, 24, 25, 26, 86, 87, 88, 89, 90, 91, 92, 93, 94, 95, 96, 97] (by decide +kernel) (by decide +kernel)
set_option maxRecDepth 20000 in
theorem gX8_soon_X7_becomeLike : GoodIn wsX8_soon (wsV RX8 130 RX7 yX7_becomeLike wsX7_becomeLike) := goodIn_app (goodIn_of _ (by decide +kernel)) ggX8_soon_X7_becomeLike
set_option maxRecDepth 20000 in
theorem ggX8_soon_X7_wouldCarry : GoodIn wsX8_soon wsX7_wouldCarry := goodIn_r _ [30, 31, 32, 33, 13, 34, 15, 35, 36, 37, 38, 18, 39, 5, 40, 41, 42, 43, 44, 45, 46, 47, 48, 49, 50, 51, 52, 53, 54, 55, 56, 57, 86, 87, 88, 89, 90, 91, 92, 93, 94, 95, 96, 97] (by decide +kernel) (by decide +kernel)
set_option maxRecDepth 20000 in
theorem gX8_soon_X7_wouldCarry : GoodIn wsX8_soon (wsV RX8 157 RX7 yX7_wouldCarry wsX7_wouldCarry) := goodIn_app (goodIn_of _ (by decide +kernel)) ggX8_soon_X7_wouldCarry
set_option maxRecDepth 20000 in
theorem ggX8_soon_X7_turnVanes : GoodIn wsX8_soon wsX7_turnVanes := goodIn_r _ [61, 19, 15, 16, 62, 42, 43, 44, 63, 64, 65, 35, 36, 37, 13, 38, 18, 66, 5, 67, 68, 69, 70, 86, 87, 88, 89, 90, 91, 92, 93, 94, 95, 96, 97] (by decide +kernel) (by decide +kernel)
set_option maxRecDepth 20000 in
theorem gX8_soon_X7_turnVanes : GoodIn wsX8_soon (wsV RX8 160 RX7 yX7_turnVanes wsX7_turnVanes) := goodIn_app (goodIn_of _ (by decide +kernel)) ggX8_soon_X7_turnVanes
theorem dX8_soon_0 : decode cX8_soon 0 = .ok (.iload_n 1, 1) := by decide +kernel
theorem dX8_soon_1 : decode cX8_soon 1 = .ok (.invokestatic 75, 3) := by decide +kernel
theorem dX8_soon_4 : decode cX8_soon 4 = .ok (.ifCond .ne 5, 3) := by decide +kernel
theorem dX8_soon_7 : decode cX8_soon 7 = .ok (.iconst (-1), 1) := by decide +kernel
theorem dX8_soon_8 : decode cX8_soon 8 = .ok (.ireturn, 1) := by decide +kernel
theorem dX8_soon_9 : decode cX8_soon 9 = .ok (.iload_n 2, 1) := by decide +kernel
theorem dX8_soon_10 : decode cX8_soon 10 = .ok (.invokestatic 75, 3) := by decide +kernel
theorem dX8_soon_13 : decode cX8_soon 13 = .ok (.ifCond .ne 6, 3) := by decide +kernel
theorem dX8_soon_16 : decode cX8_soon 16 = .ok (.bipush (-2), 2) := by decide +kernel
theorem dX8_soon_18 : decode cX8_soon 18 = .ok (.ireturn, 1) := by decide +kernel
theorem dX8_soon_19 : decode cX8_soon 19 = .ok (.aload_n 0, 1) := by decide +kernel
theorem dX8_soon_20 : decode cX8_soon 20 = .ok (.getfield 32, 3) := by decide +kernel
theorem dX8_soon_23 : decode cX8_soon 23 = .ok (.getfield 127, 3) := by decide +kernel
theorem dX8_soon_26 : decode cX8_soon 26 = .ok (.astore_n 3, 1) := by decide +kernel
theorem dX8_soon_27 : decode cX8_soon 27 = .ok (.aload_n 3, 1) := by decide +kernel
theorem dX8_soon_28 : decode cX8_soon 28 = .ok (.aload_n 0, 1) := by decide +kernel
theorem dX8_soon_29 : decode cX8_soon 29 = .ok (.getfield 10, 3) := by decide +kernel
theorem dX8_soon_32 : decode cX8_soon 32 = .ok (.invokevirtual 130, 3) := by decide +kernel
theorem dX8_soon_35 : decode cX8_soon 35 = .ok (.iconst 0, 1) := by decide +kernel
theorem dX8_soon_36 : decode cX8_soon 36 = .ok (.istore 4, 2) := by decide +kernel
theorem dX8_soon_38 : decode cX8_soon 38 = .ok (.iload 4, 2) := by decide +kernel
theorem dX8_soon_40 : decode cX8_soon 40 = .ok (.bipush 8, 2) := by decide +kernel
theorem dX8_soon_42 : decode cX8_soon 42 = .ok (.if_icmp .gt 25, 3) := by decide +kernel
theorem dX8_soon_45 : decode cX8_soon 45 = .ok (.aload_n 3, 1) := by decide +kernel
theorem dX8_soon_46 : decode cX8_soon 46 = .ok (.iload_n 1, 1) := by decide +kernel
theorem dX8_soon_47 : decode cX8_soon 47 = .ok (.invokevirtual 157, 3) := by decide +kernel
theorem dX8_soon_50 : decode cX8_soon 50 = .ok (.ifCond .eq 6, 3) := by decide +kernel
theorem dX8_soon_53 : decode cX8_soon 53 = .ok (.iload 4, 2) := by decide +kernel
theorem dX8_soon_55 : decode cX8_soon 55 = .ok (.ireturn, 1) := by decide +kernel
theorem dX8_soon_56 : decode cX8_soon 56 = .ok (.aload_n 3, 1) := by decide +kernel
theorem dX8_soon_57 : decode cX8_soon 57 = .ok (.iload_n 2, 1) := by decide +kernel
theorem dX8_soon_58 : decode cX8_soon 58 = .ok (.invokevirtual 160, 3) := by decide +kernel
theorem dX8_soon_61 : decode cX8_soon 61 = .ok (.iinc 4 1, 3) := by decide +kernel
theorem dX8_soon_64 : decode cX8_soon 64 = .ok (.goto (-26), 3) := by decide +kernel
theorem dX8_soon_67 : decode cX8_soon 67 = .ok (.bipush (-6), 2) := by decide +kernel
theorem dX8_soon_69 : decode cX8_soon 69 = .ok (.ireturn, 1) := by decide +kernel
set_option maxRecDepth 20000 in
theorem ggX8_agenda_X0_readRow : GoodIn wsX8_agenda wsX0_readRow := goodIn_r _ [7, 8, 9, 10, 11, 12, 13, 14, 15, 16, 17, 18, 19, 20, 21, 22, 23, 24, 25, 26, 27, 58, 59] (by decide +kernel) (by decide +kernel)
set_option maxRecDepth 20000 in
theorem gX8_agenda_X0_readRow : GoodIn wsX8_agenda (wsV RX8 164 RX0 yX0_readRow wsX0_readRow) := goodIn_app (goodIn_of _ (by decide +kernel)) ggX8_agenda_X0_readRow
set_option maxRecDepth 20000 in
theorem ggX8_agenda_X0_leftOf : GoodIn wsX8_agenda wsX0_leftOf := goodIn_r _ [31, 12, 32, 33, 6, 34, 35, 36, 37, 38, 39, 40, 41, 14, 42, 43, 9, 10, 11, 44, 45, 23, 46, 58, 59, 60, 61, 62, 63, 64, 65, 66, 67, 68, 69, 70, 71] (by decide +kernel) (by decide +kernel)
set_option maxRecDepth 20000 in
theorem gX8_agenda_X0_leftOf : GoodIn wsX8_agenda (wsV RX8 167 RX0 yX0_leftOf wsX0_leftOf) := goodIn_app (goodIn_of _ (by decide +kernel)) ggX8_agenda_X0_leftOf
theorem dX8_agenda_0 : decode cX8_agenda 0 = .ok (.iload_n 2, 1) := by decide +kernel
theorem dX8_agenda_1 : decode cX8_agenda 1 = .ok (.iconst 2, 1) := by decide +kernel
theorem dX8_agenda_2 : decode cX8_agenda 2 = .ok (.if_icmp .lt 21, 3) := by decide +kernel
theorem dX8_agenda_5 : decode cX8_agenda 5 = .ok (.iload_n 2, 1) := by decide +kernel
theorem dX8_agenda_6 : decode cX8_agenda 6 = .ok (.bipush 8, 2) := by decide +kernel
theorem dX8_agenda_8 : decode cX8_agenda 8 = .ok (.if_icmp .gt 15, 3) := by decide +kernel
theorem dX8_agenda_11 : decode cX8_agenda 11 = .ok (.aload_n 0, 1) := by decide +kernel
theorem dX8_agenda_12 : decode cX8_agenda 12 = .ok (.getfield 39, 3) := by decide +kernel
theorem dX8_agenda_15 : decode cX8_agenda 15 = .ok (.iload_n 1, 1) := by decide +kernel
theorem dX8_agenda_16 : decode cX8_agenda 16 = .ok (.iload_n 2, 1) := by decide +kernel
theorem dX8_agenda_17 : decode cX8_agenda 17 = .ok (.invokevirtual 164, 3) := by decide +kernel
theorem dX8_agenda_20 : decode cX8_agenda 20 = .ok (.ifCond .ne 6, 3) := by decide +kernel
theorem dX8_agenda_23 : decode cX8_agenda 23 = .ok (.bipush (-2), 2) := by decide +kernel
theorem dX8_agenda_25 : decode cX8_agenda 25 = .ok (.ireturn, 1) := by decide +kernel
theorem dX8_agenda_26 : decode cX8_agenda 26 = .ok (.aload_n 0, 1) := by decide +kernel
theorem dX8_agenda_27 : decode cX8_agenda 27 = .ok (.getfield 39, 3) := by decide +kernel
theorem dX8_agenda_30 : decode cX8_agenda 30 = .ok (.aload_n 0, 1) := by decide +kernel
theorem dX8_agenda_31 : decode cX8_agenda 31 = .ok (.getfield 10, 3) := by decide +kernel
theorem dX8_agenda_34 : decode cX8_agenda 34 = .ok (.iload_n 2, 1) := by decide +kernel
theorem dX8_agenda_35 : decode cX8_agenda 35 = .ok (.invokevirtual 167, 3) := by decide +kernel
theorem dX8_agenda_38 : decode cX8_agenda 38 = .ok (.ireturn, 1) := by decide +kernel
set_option maxRecDepth 20000 in
theorem ggX8_can_X8_isWay : GoodIn wsX8_can wsX8_isWay := goodIn_r _ [6, 7, 8, 5, 9] (by decide +kernel) (by decide +kernel)
set_option maxRecDepth 20000 in
theorem gX8_can_X8_isWay : GoodIn wsX8_can (va_wsS RX8 75 yX8_isWay wsX8_isWay) := goodIn_app (goodIn_of _ (by decide +kernel)) ggX8_can_X8_isWay
set_option maxRecDepth 20000 in
theorem ggX8_can_X8_isUpTo : GoodIn wsX8_can wsX8_isUpTo := goodIn_r _ [9] (by decide +kernel) (by decide +kernel)
set_option maxRecDepth 20000 in
theorem gX8_can_X8_isUpTo : GoodIn wsX8_can (va_wsS RX8 78 yX8_isUpTo wsX8_isUpTo) := goodIn_app (goodIn_of _ (by decide +kernel)) ggX8_can_X8_isUpTo
set_option maxRecDepth 20000 in
theorem ggX8_can_X0_beatenBy : GoodIn wsX8_can wsX0_beatenBy := goodIn_r _ [13, 14, 15, 12, 16, 17, 18, 19, 20, 21, 22, 23, 5, 24, 25, 26, 27, 28, 29, 30, 31, 32, 33, 34, 60, 61, 62, 63, 64, 65, 66, 67, 68, 69, 70, 71] (by decide +kernel) (by decide +kernel)
set_option maxRecDepth 20000 in
theorem gX8_can_X0_beatenBy : GoodIn wsX8_can (va_wsS RX8 171 yX0_beatenBy wsX0_beatenBy) := goodIn_app (goodIn_of _ (by decide +kernel)) ggX8_can_X0_beatenBy
set_option maxRecDepth 20000 in
theorem ggX8_can_J6_bitCount_0f7a4 : GoodIn wsX8_can wsJ6_bitCount_0f7a4 := goodIn_r _ [37, 38, 39, 40] (by decide +kernel) (by decide +kernel)
set_option maxRecDepth 20000 in
theorem gX8_can_J6_bitCount_0f7a4 : GoodIn wsX8_can (va_wsS RX8 174 yJ6_bitCount_0f7a4 wsJ6_bitCount_0f7a4) := goodIn_app (goodIn_of _ (by decide +kernel)) ggX8_can_J6_bitCount_0f7a4
set_option maxRecDepth 20000 in
theorem ggX8_can_X0_canBeLeft : GoodIn wsX8_can wsX0_canBeLeft := goodIn_r _ [44, 45, 46, 11, 12, 13, 14, 15, 16, 17, 18, 19, 20, 21, 22, 23, 5, 24, 25, 26, 27, 28, 29, 30, 31, 32, 33, 34, 47, 48, 72, 73, 60, 61, 62, 63, 64, 65, 66, 67, 68, 69, 70, 71] (by decide +kernel) (by decide +kernel)
set_option maxRecDepth 20000 in
theorem gX8_can_X0_canBeLeft : GoodIn wsX8_can (wsV RX8 179 RX0 yX0_canBeLeft wsX0_canBeLeft) := goodIn_app (goodIn_of _ (by decide +kernel)) ggX8_can_X0_canBeLeft
theorem dX8_can_0 : decode cX8_can 0 = .ok (.iload_n 1, 1) := by decide +kernel
theorem dX8_can_1 : decode cX8_can 1 = .ok (.invokestatic 75, 3) := by decide +kernel
theorem dX8_can_4 : decode cX8_can 4 = .ok (.ifCond .ne 5, 3) := by decide +kernel
theorem dX8_can_7 : decode cX8_can 7 = .ok (.iconst (-1), 1) := by decide +kernel
theorem dX8_can_8 : decode cX8_can 8 = .ok (.ireturn, 1) := by decide +kernel
theorem dX8_can_9 : decode cX8_can 9 = .ok (.iload_n 2, 1) := by decide +kernel
theorem dX8_can_10 : decode cX8_can 10 = .ok (.iconst 1, 1) := by decide +kernel
theorem dX8_can_11 : decode cX8_can 11 = .ok (.invokestatic 78, 3) := by decide +kernel
theorem dX8_can_14 : decode cX8_can 14 = .ok (.ifCond .ne 6, 3) := by decide +kernel
theorem dX8_can_17 : decode cX8_can 17 = .ok (.bipush (-2), 2) := by decide +kernel
theorem dX8_can_19 : decode cX8_can 19 = .ok (.ireturn, 1) := by decide +kernel
theorem dX8_can_20 : decode cX8_can 20 = .ok (.iload_n 2, 1) := by decide +kernel
theorem dX8_can_21 : decode cX8_can 21 = .ok (.iconst 1, 1) := by decide +kernel
theorem dX8_can_22 : decode cX8_can 22 = .ok (.if_icmp .ne 15, 3) := by decide +kernel
theorem dX8_can_25 : decode cX8_can 25 = .ok (.aload_n 0, 1) := by decide +kernel
theorem dX8_can_26 : decode cX8_can 26 = .ok (.getfield 10, 3) := by decide +kernel
theorem dX8_can_29 : decode cX8_can 29 = .ok (.iload_n 1, 1) := by decide +kernel
theorem dX8_can_30 : decode cX8_can 30 = .ok (.invokestatic 171, 3) := by decide +kernel
theorem dX8_can_33 : decode cX8_can 33 = .ok (.invokestatic 174, 3) := by decide +kernel
theorem dX8_can_36 : decode cX8_can 36 = .ok (.ireturn, 1) := by decide +kernel
theorem dX8_can_37 : decode cX8_can 37 = .ok (.aload_n 0, 1) := by decide +kernel
theorem dX8_can_38 : decode cX8_can 38 = .ok (.getfield 39, 3) := by decide +kernel
theorem dX8_can_41 : decode cX8_can 41 = .ok (.aload_n 0, 1) := by decide +kernel
theorem dX8_can_42 : decode cX8_can 42 = .ok (.getfield 10, 3) := by decide +kernel
theorem dX8_can_45 : decode cX8_can 45 = .ok (.iload_n 1, 1) := by decide +kernel
theorem dX8_can_46 : decode cX8_can 46 = .ok (.invokevirtual 179, 3) := by decide +kernel
theorem dX8_can_49 : decode cX8_can 49 = .ok (.ifCond .eq 7, 3) := by decide +kernel
theorem dX8_can_52 : decode cX8_can 52 = .ok (.iconst 1, 1) := by decide +kernel
theorem dX8_can_53 : decode cX8_can 53 = .ok (.goto 4, 3) := by decide +kernel
theorem dX8_can_56 : decode cX8_can 56 = .ok (.iconst 0, 1) := by decide +kernel
theorem dX8_can_57 : decode cX8_can 57 = .ok (.ireturn, 1) := by decide +kernel
set_option maxRecDepth 20000 in
theorem ggX8_ways_X8_isUpTo : GoodIn wsX8_ways wsX8_isUpTo := goodIn_r _ [6] (by decide +kernel) (by decide +kernel)
set_option maxRecDepth 20000 in
theorem gX8_ways_X8_isUpTo : GoodIn wsX8_ways (va_wsS RX8 78 yX8_isUpTo wsX8_isUpTo) := goodIn_app (goodIn_of _ (by decide +kernel)) ggX8_ways_X8_isUpTo
set_option maxRecDepth 20000 in
theorem ggX8_ways_X4_count : GoodIn wsX8_ways wsX4_count := goodIn_r _ [11, 12, 13, 14, 10, 15, 16, 17, 18, 19, 20, 5, 21, 3, 4, 6, 22, 23, 24, 25, 26, 27, 28, 29, 46, 47, 48, 49, 50, 51, 52, 53, 54, 55, 56, 57, 58] (by decide +kernel) (by decide +kernel)
set_option maxRecDepth 20000 in
theorem gX8_ways_X4_count : GoodIn wsX8_ways (wsV RX8 183 RX4 yX4_count wsX4_count) := goodIn_app (goodIn_of _ (by decide +kernel)) ggX8_ways_X4_count
set_option maxRecDepth 20000 in
theorem ggX8_ways_X4_fewest : GoodIn wsX8_ways wsX4_fewest := goodIn_r _ [33, 34, 8, 9, 10, 11, 12, 13, 14, 15, 16, 17, 18, 19, 20, 5, 21, 3, 4, 6, 22, 23, 24, 25, 26, 27, 28, 29, 47, 48, 49, 50, 51, 52, 53, 54, 55, 56, 57, 58, 46] (by decide +kernel) (by decide +kernel)
set_option maxRecDepth 20000 in
theorem gX8_ways_X4_fewest : GoodIn wsX8_ways (wsV RX8 186 RX4 yX4_fewest wsX4_fewest) := goodIn_app (goodIn_of _ (by decide +kernel)) ggX8_ways_X4_fewest
theorem dX8_ways_0 : decode cX8_ways 0 = .ok (.iload_n 1, 1) := by decide +kernel
theorem dX8_ways_1 : decode cX8_ways 1 = .ok (.iconst 1, 1) := by decide +kernel
theorem dX8_ways_2 : decode cX8_ways 2 = .ok (.if_icmp .lt 17, 3) := by decide +kernel
theorem dX8_ways_5 : decode cX8_ways 5 = .ok (.iload_n 1, 1) := by decide +kernel
theorem dX8_ways_6 : decode cX8_ways 6 = .ok (.bipush 8, 2) := by decide +kernel
theorem dX8_ways_8 : decode cX8_ways 8 = .ok (.if_icmp .gt 11, 3) := by decide +kernel
theorem dX8_ways_11 : decode cX8_ways 11 = .ok (.iload_n 2, 1) := by decide +kernel
theorem dX8_ways_12 : decode cX8_ways 12 = .ok (.iconst 1, 1) := by decide +kernel
theorem dX8_ways_13 : decode cX8_ways 13 = .ok (.invokestatic 78, 3) := by decide +kernel
theorem dX8_ways_16 : decode cX8_ways 16 = .ok (.ifCond .ne 6, 3) := by decide +kernel
theorem dX8_ways_19 : decode cX8_ways 19 = .ok (.bipush (-2), 2) := by decide +kernel
theorem dX8_ways_21 : decode cX8_ways 21 = .ok (.ireturn, 1) := by decide +kernel
theorem dX8_ways_22 : decode cX8_ways 22 = .ok (.iload_n 2, 1) := by decide +kernel
theorem dX8_ways_23 : decode cX8_ways 23 = .ok (.ifCond .ne 18, 3) := by decide +kernel
theorem dX8_ways_26 : decode cX8_ways 26 = .ok (.aload_n 0, 1) := by decide +kernel
theorem dX8_ways_27 : decode cX8_ways 27 = .ok (.getfield 46, 3) := by decide +kernel
theorem dX8_ways_30 : decode cX8_ways 30 = .ok (.aload_n 0, 1) := by decide +kernel
theorem dX8_ways_31 : decode cX8_ways 31 = .ok (.getfield 10, 3) := by decide +kernel
theorem dX8_ways_34 : decode cX8_ways 34 = .ok (.iload_n 1, 1) := by decide +kernel
theorem dX8_ways_35 : decode cX8_ways 35 = .ok (.invokevirtual 183, 3) := by decide +kernel
theorem dX8_ways_38 : decode cX8_ways 38 = .ok (.goto 14, 3) := by decide +kernel
theorem dX8_ways_41 : decode cX8_ways 41 = .ok (.aload_n 0, 1) := by decide +kernel
theorem dX8_ways_42 : decode cX8_ways 42 = .ok (.getfield 46, 3) := by decide +kernel
theorem dX8_ways_45 : decode cX8_ways 45 = .ok (.aload_n 0, 1) := by decide +kernel
theorem dX8_ways_46 : decode cX8_ways 46 = .ok (.getfield 10, 3) := by decide +kernel
theorem dX8_ways_49 : decode cX8_ways 49 = .ok (.invokevirtual 186, 3) := by decide +kernel
theorem dX8_ways_52 : decode cX8_ways 52 = .ok (.ireturn, 1) := by decide +kernel
set_option maxRecDepth 20000 in
theorem ggX8_seen_X8_isWay : GoodIn wsX8_seen wsX8_isWay := goodIn_r _ [5, 6, 7, 4, 8] (by decide +kernel) (by decide +kernel)
set_option maxRecDepth 20000 in
theorem gX8_seen_X8_isWay : GoodIn wsX8_seen (va_wsS RX8 75 yX8_isWay wsX8_isWay) := goodIn_app (goodIn_of _ (by decide +kernel)) ggX8_seen_X8_isWay
set_option maxRecDepth 20000 in
theorem ggX8_seen_X7_see : GoodIn wsX8_seen wsX7_see := goodIn_r _ [13, 14, 15, 16, 17, 4, 18, 30, 31, 32, 33, 34, 35, 36, 37, 38, 39, 40, 41] (by decide +kernel) (by decide +kernel)
set_option maxRecDepth 20000 in
theorem gX8_seen_X7_see : GoodIn wsX8_seen (wsV RX8 193 RX7 yX7_see wsX7_see) := goodIn_app (goodIn_of _ (by decide +kernel)) ggX8_seen_X7_see
theorem dX8_seen_0 : decode cX8_seen 0 = .ok (.iload_n 1, 1) := by decide +kernel
theorem dX8_seen_1 : decode cX8_seen 1 = .ok (.invokestatic 75, 3) := by decide +kernel
theorem dX8_seen_4 : decode cX8_seen 4 = .ok (.ifCond .ne 5, 3) := by decide +kernel
theorem dX8_seen_7 : decode cX8_seen 7 = .ok (.iconst (-1), 1) := by decide +kernel
theorem dX8_seen_8 : decode cX8_seen 8 = .ok (.ireturn, 1) := by decide +kernel
theorem dX8_seen_9 : decode cX8_seen 9 = .ok (.aload_n 0, 1) := by decide +kernel
theorem dX8_seen_10 : decode cX8_seen 10 = .ok (.getfield 10, 3) := by decide +kernel
theorem dX8_seen_13 : decode cX8_seen 13 = .ok (.getfield 190, 3) := by decide +kernel
theorem dX8_seen_16 : decode cX8_seen 16 = .ok (.bipush 8, 2) := by decide +kernel
theorem dX8_seen_18 : decode cX8_seen 18 = .ok (.if_icmp .lt 6, 3) := by decide +kernel
theorem dX8_seen_21 : decode cX8_seen 21 = .ok (.bipush (-4), 2) := by decide +kernel
theorem dX8_seen_23 : decode cX8_seen 23 = .ok (.ireturn, 1) := by decide +kernel
theorem dX8_seen_24 : decode cX8_seen 24 = .ok (.aload_n 0, 1) := by decide +kernel
theorem dX8_seen_25 : decode cX8_seen 25 = .ok (.getfield 10, 3) := by decide +kernel
theorem dX8_seen_28 : decode cX8_seen 28 = .ok (.iload_n 1, 1) := by decide +kernel
theorem dX8_seen_29 : decode cX8_seen 29 = .ok (.iload_n 2, 1) := by decide +kernel
theorem dX8_seen_30 : decode cX8_seen 30 = .ok (.invokevirtual 193, 3) := by decide +kernel
theorem dX8_seen_33 : decode cX8_seen 33 = .ok (.aload_n 0, 1) := by decide +kernel
theorem dX8_seen_34 : decode cX8_seen 34 = .ok (.getfield 10, 3) := by decide +kernel
theorem dX8_seen_37 : decode cX8_seen 37 = .ok (.getfield 190, 3) := by decide +kernel
theorem dX8_seen_40 : decode cX8_seen 40 = .ok (.ireturn, 1) := by decide +kernel
theorem dX8_forget_0 : decode cX8_forget 0 = .ok (.aload_n 0, 1) := by decide +kernel
theorem dX8_forget_1 : decode cX8_forget 1 = .ok (.getfield 10, 3) := by decide +kernel
theorem dX8_forget_4 : decode cX8_forget 4 = .ok (.getfield 190, 3) := by decide +kernel
theorem dX8_forget_7 : decode cX8_forget 7 = .ok (.istore_n 1, 1) := by decide +kernel
theorem dX8_forget_8 : decode cX8_forget 8 = .ok (.aload_n 0, 1) := by decide +kernel
theorem dX8_forget_9 : decode cX8_forget 9 = .ok (.getfield 10, 3) := by decide +kernel
theorem dX8_forget_12 : decode cX8_forget 12 = .ok (.iconst 0, 1) := by decide +kernel
theorem dX8_forget_13 : decode cX8_forget 13 = .ok (.putfield 190, 3) := by decide +kernel
theorem dX8_forget_16 : decode cX8_forget 16 = .ok (.aload_n 0, 1) := by decide +kernel
theorem dX8_forget_17 : decode cX8_forget 17 = .ok (.getfield 10, 3) := by decide +kernel
theorem dX8_forget_20 : decode cX8_forget 20 = .ok (.iconst 0, 1) := by decide +kernel
theorem dX8_forget_21 : decode cX8_forget 21 = .ok (.putfield 197, 3) := by decide +kernel
theorem dX8_forget_24 : decode cX8_forget 24 = .ok (.aload_n 0, 1) := by decide +kernel
theorem dX8_forget_25 : decode cX8_forget 25 = .ok (.getfield 10, 3) := by decide +kernel
theorem dX8_forget_28 : decode cX8_forget 28 = .ok (.iconst 0, 1) := by decide +kernel
theorem dX8_forget_29 : decode cX8_forget 29 = .ok (.putfield 200, 3) := by decide +kernel
theorem dX8_forget_32 : decode cX8_forget 32 = .ok (.iload_n 1, 1) := by decide +kernel
theorem dX8_forget_33 : decode cX8_forget 33 = .ok (.ireturn, 1) := by decide +kernel
set_option maxRecDepth 20000 in
theorem ggX8_stuck_X2_count : GoodIn wsX8_stuck wsX2_count := goodIn_r _ [5, 6, 7, 4, 8, 9, 10, 11, 12, 13, 14, 29, 30, 31, 32, 33, 34, 35, 36, 37, 38, 39, 40] (by decide +kernel) (by decide +kernel)
set_option maxRecDepth 20000 in
theorem gX8_stuck_X2_count : GoodIn wsX8_stuck (va_wsS RX8 203 yX2_count wsX2_count) := goodIn_app (goodIn_of _ (by decide +kernel)) ggX8_stuck_X2_count
set_option maxRecDepth 20000 in
theorem ggX8_stuck_X2_tell : GoodIn wsX8_stuck wsX2_tell := goodIn_r _ [17, 6, 7, 4, 8, 9, 10, 11, 12, 13, 14, 29, 30, 31, 32, 33, 34, 35, 36, 37, 38, 39, 40] (by decide +kernel) (by decide +kernel)
set_option maxRecDepth 20000 in
theorem gX8_stuck_X2_tell : GoodIn wsX8_stuck (va_wsS RX8 205 yX2_tell wsX2_tell) := goodIn_app (goodIn_of _ (by decide +kernel)) ggX8_stuck_X2_tell
theorem dX8_stuck_0 : decode cX8_stuck 0 = .ok (.iload_n 1, 1) := by decide +kernel
theorem dX8_stuck_1 : decode cX8_stuck 1 = .ok (.iconst (-1), 1) := by decide +kernel
theorem dX8_stuck_2 : decode cX8_stuck 2 = .ok (.if_icmp .ne 13, 3) := by decide +kernel
theorem dX8_stuck_5 : decode cX8_stuck 5 = .ok (.aload_n 0, 1) := by decide +kernel
theorem dX8_stuck_6 : decode cX8_stuck 6 = .ok (.getfield 10, 3) := by decide +kernel
theorem dX8_stuck_9 : decode cX8_stuck 9 = .ok (.invokestatic 203, 3) := by decide +kernel
theorem dX8_stuck_12 : decode cX8_stuck 12 = .ok (.goto 11, 3) := by decide +kernel
theorem dX8_stuck_15 : decode cX8_stuck 15 = .ok (.aload_n 0, 1) := by decide +kernel
theorem dX8_stuck_16 : decode cX8_stuck 16 = .ok (.getfield 10, 3) := by decide +kernel
theorem dX8_stuck_19 : decode cX8_stuck 19 = .ok (.iload_n 1, 1) := by decide +kernel
theorem dX8_stuck_20 : decode cX8_stuck 20 = .ok (.invokestatic 205, 3) := by decide +kernel
theorem dX8_stuck_23 : decode cX8_stuck 23 = .ok (.ireturn, 1) := by decide +kernel
set_option maxRecDepth 20000 in
theorem ggX8_ask_X8_isUpTo : GoodIn wsX8_ask wsX8_isUpTo := goodIn_r _ [6] (by decide +kernel) (by decide +kernel)
set_option maxRecDepth 20000 in
theorem gX8_ask_X8_isUpTo : GoodIn wsX8_ask (va_wsS RX8 78 yX8_isUpTo wsX8_isUpTo) := goodIn_app (goodIn_of _ (by decide +kernel)) ggX8_ask_X8_isUpTo
set_option maxRecDepth 20000 in
theorem ggX8_ask_X2_choose : GoodIn wsX8_ask wsX2_choose := goodIn_r _ [11, 12, 13, 14, 15, 16, 17, 18, 19, 20, 21, 10, 22, 23, 24, 25, 26, 27, 28, 29, 5, 30, 42, 43, 44, 45, 46, 47, 48, 49, 50, 51, 52, 53, 54, 55, 56] (by decide +kernel) (by decide +kernel)
set_option maxRecDepth 20000 in
theorem gX8_ask_X2_choose : GoodIn wsX8_ask (wsV RX8 207 RX2 yX2_choose wsX2_choose) := goodIn_app (goodIn_of _ (by decide +kernel)) ggX8_ask_X2_choose
theorem dX8_ask_0 : decode cX8_ask 0 = .ok (.iload_n 1, 1) := by decide +kernel
theorem dX8_ask_1 : decode cX8_ask 1 = .ok (.iconst 1, 1) := by decide +kernel
theorem dX8_ask_2 : decode cX8_ask 2 = .ok (.invokestatic 78, 3) := by decide +kernel
theorem dX8_ask_5 : decode cX8_ask 5 = .ok (.ifCond .ne 6, 3) := by decide +kernel
theorem dX8_ask_8 : decode cX8_ask 8 = .ok (.bipush (-2), 2) := by decide +kernel
theorem dX8_ask_10 : decode cX8_ask 10 = .ok (.ireturn, 1) := by decide +kernel
theorem dX8_ask_11 : decode cX8_ask 11 = .ok (.aload_n 0, 1) := by decide +kernel
theorem dX8_ask_12 : decode cX8_ask 12 = .ok (.getfield 53, 3) := by decide +kernel
theorem dX8_ask_15 : decode cX8_ask 15 = .ok (.aload_n 0, 1) := by decide +kernel
theorem dX8_ask_16 : decode cX8_ask 16 = .ok (.getfield 10, 3) := by decide +kernel
theorem dX8_ask_19 : decode cX8_ask 19 = .ok (.invokevirtual 207, 3) := by decide +kernel
theorem dX8_ask_22 : decode cX8_ask 22 = .ok (.iload_n 1, 1) := by decide +kernel
theorem dX8_ask_23 : decode cX8_ask 23 = .ok (.ifCond .ne 13, 3) := by decide +kernel
theorem dX8_ask_26 : decode cX8_ask 26 = .ok (.aload_n 0, 1) := by decide +kernel
theorem dX8_ask_27 : decode cX8_ask 27 = .ok (.getfield 53, 3) := by decide +kernel
theorem dX8_ask_30 : decode cX8_ask 30 = .ok (.getfield 210, 3) := by decide +kernel
theorem dX8_ask_33 : decode cX8_ask 33 = .ok (.goto 10, 3) := by decide +kernel
theorem dX8_ask_36 : decode cX8_ask 36 = .ok (.aload_n 0, 1) := by decide +kernel
theorem dX8_ask_37 : decode cX8_ask 37 = .ok (.getfield 53, 3) := by decide +kernel
theorem dX8_ask_40 : decode cX8_ask 40 = .ok (.getfield 213, 3) := by decide +kernel
theorem dX8_ask_43 : decode cX8_ask 43 = .ok (.ireturn, 1) := by decide +kernel
set_option maxRecDepth 20000 in
theorem ggX8_drops_X8_isUpTo : GoodIn wsX8_drops wsX8_isUpTo := goodIn_r _ [5] (by decide +kernel) (by decide +kernel)
set_option maxRecDepth 20000 in
theorem gX8_drops_X8_isUpTo : GoodIn wsX8_drops (va_wsS RX8 78 yX8_isUpTo wsX8_isUpTo) := goodIn_app (goodIn_of _ (by decide +kernel)) ggX8_drops_X8_isUpTo
set_option maxRecDepth 20000 in
theorem ggX8_drops_X5_leastWinningTake : GoodIn wsX8_drops wsX5_leastWinningTake := goodIn_r _ [10, 11, 12, 3, 4, 5, 13, 14, 15, 9, 16, 28, 29] (by decide +kernel) (by decide +kernel)
set_option maxRecDepth 20000 in
theorem gX8_drops_X5_leastWinningTake : GoodIn wsX8_drops (wsV RX8 216 RX5 yX5_leastWinningTake wsX5_leastWinningTake) := goodIn_app (goodIn_of _ (by decide +kernel)) ggX8_drops_X5_leastWinningTake
theorem dX8_drops_0 : decode cX8_drops 0 = .ok (.iload_n 1, 1) := by decide +kernel
theorem dX8_drops_1 : decode cX8_drops 1 = .ok (.sipush 200, 3) := by decide +kernel
theorem dX8_drops_4 : decode cX8_drops 4 = .ok (.invokestatic 78, 3) := by decide +kernel
theorem dX8_drops_7 : decode cX8_drops 7 = .ok (.ifCond .eq 11, 3) := by decide +kernel
theorem dX8_drops_10 : decode cX8_drops 10 = .ok (.iload_n 2, 1) := by decide +kernel
theorem dX8_drops_11 : decode cX8_drops 11 = .ok (.iconst 1, 1) := by decide +kernel
theorem dX8_drops_12 : decode cX8_drops 12 = .ok (.invokestatic 78, 3) := by decide +kernel
theorem dX8_drops_15 : decode cX8_drops 15 = .ok (.ifCond .ne 6, 3) := by decide +kernel
theorem dX8_drops_18 : decode cX8_drops 18 = .ok (.bipush (-2), 2) := by decide +kernel
theorem dX8_drops_20 : decode cX8_drops 20 = .ok (.ireturn, 1) := by decide +kernel
theorem dX8_drops_21 : decode cX8_drops 21 = .ok (.aload_n 0, 1) := by decide +kernel
theorem dX8_drops_22 : decode cX8_drops 22 = .ok (.getfield 60, 3) := by decide +kernel
theorem dX8_drops_25 : decode cX8_drops 25 = .ok (.iload_n 1, 1) := by decide +kernel
theorem dX8_drops_26 : decode cX8_drops 26 = .ok (.invokevirtual 216, 3) := by decide +kernel
theorem dX8_drops_29 : decode cX8_drops 29 = .ok (.istore_n 3, 1) := by decide +kernel
theorem dX8_drops_30 : decode cX8_drops 30 = .ok (.iload_n 2, 1) := by decide +kernel
theorem dX8_drops_31 : decode cX8_drops 31 = .ok (.iconst 1, 1) := by decide +kernel
theorem dX8_drops_32 : decode cX8_drops 32 = .ok (.if_icmp .ne 5, 3) := by decide +kernel
theorem dX8_drops_35 : decode cX8_drops 35 = .ok (.iload_n 3, 1) := by decide +kernel
theorem dX8_drops_36 : decode cX8_drops 36 = .ok (.ireturn, 1) := by decide +kernel
theorem dX8_drops_37 : decode cX8_drops 37 = .ok (.iload_n 3, 1) := by decide +kernel
theorem dX8_drops_38 : decode cX8_drops 38 = .ok (.bipush (-6), 2) := by decide +kernel
theorem dX8_drops_40 : decode cX8_drops 40 = .ok (.if_icmp .ne 7, 3) := by decide +kernel
theorem dX8_drops_43 : decode cX8_drops 43 = .ok (.iconst 0, 1) := by decide +kernel
theorem dX8_drops_44 : decode cX8_drops 44 = .ok (.goto 4, 3) := by decide +kernel
theorem dX8_drops_47 : decode cX8_drops 47 = .ok (.iconst 1, 1) := by decide +kernel
theorem dX8_drops_48 : decode cX8_drops 48 = .ok (.ireturn, 1) := by decide +kernel
set_option maxRecDepth 20000 in
theorem ggX8_everywhere_X8_isUpTo : GoodIn wsX8_everywhere wsX8_isUpTo := goodIn_r _ [6] (by decide +kernel) (by decide +kernel)
set_option maxRecDepth 20000 in
theorem gX8_everywhere_X8_isUpTo : GoodIn wsX8_everywhere (va_wsS RX8 78 yX8_isUpTo wsX8_isUpTo) := goodIn_app (goodIn_of _ (by decide +kernel)) ggX8_everywhere_X8_isUpTo
set_option maxRecDepth 20000 in
theorem ggX8_everywhere_X1_countHours : GoodIn wsX8_everywhere wsX1_countHours := goodIn_r _ [11, 12, 13, 14, 15, 16, 17, 18, 19, 20, 21, 46, 47, 48] (by decide +kernel) (by decide +kernel)
set_option maxRecDepth 20000 in
theorem gX8_everywhere_X1_countHours : GoodIn wsX8_everywhere (wsV RX8 221 RX1 yX1_countHours wsX1_countHours) := goodIn_app (goodIn_of _ (by decide +kernel)) ggX8_everywhere_X1_countHours
set_option maxRecDepth 20000 in
theorem ggX8_everywhere_X1_countMean : GoodIn wsX8_everywhere wsX1_countMean := goodIn_r _ [25, 21, 26, 20, 46, 47, 48] (by decide +kernel) (by decide +kernel)
set_option maxRecDepth 20000 in
theorem gX8_everywhere_X1_countMean : GoodIn wsX8_everywhere (wsV RX8 225 RX1 yX1_countMean wsX1_countMean) := goodIn_app (goodIn_of _ (by decide +kernel)) ggX8_everywhere_X1_countMean
set_option maxRecDepth 20000 in
theorem ggX8_everywhere_X1_inLowestTerms : GoodIn wsX8_everywhere wsX1_inLowestTerms := goodIn_r _ [30, 21, 20, 31, 32, 33, 10, 34, 46, 47, 48] (by decide +kernel) (by decide +kernel)
set_option maxRecDepth 20000 in
theorem gX8_everywhere_X1_inLowestTerms : GoodIn wsX8_everywhere (wsV RX8 228 RX1 yX1_inLowestTerms wsX1_inLowestTerms) := goodIn_app (goodIn_of _ (by decide +kernel)) ggX8_everywhere_X1_inLowestTerms
theorem dX8_everywhere_0 : decode cX8_everywhere 0 = .ok (.iload_n 1, 1) := by decide +kernel
theorem dX8_everywhere_1 : decode cX8_everywhere 1 = .ok (.iconst 1, 1) := by decide +kernel
theorem dX8_everywhere_2 : decode cX8_everywhere 2 = .ok (.if_icmp .lt 18, 3) := by decide +kernel
theorem dX8_everywhere_5 : decode cX8_everywhere 5 = .ok (.iload_n 1, 1) := by decide +kernel
theorem dX8_everywhere_6 : decode cX8_everywhere 6 = .ok (.bipush 8, 2) := by decide +kernel
theorem dX8_everywhere_8 : decode cX8_everywhere 8 = .ok (.if_icmp .gt 12, 3) := by decide +kernel
theorem dX8_everywhere_11 : decode cX8_everywhere 11 = .ok (.iload_n 2, 1) := by decide +kernel
theorem dX8_everywhere_12 : decode cX8_everywhere 12 = .ok (.bipush 16, 2) := by decide +kernel
theorem dX8_everywhere_14 : decode cX8_everywhere 14 = .ok (.invokestatic 78, 3) := by decide +kernel
theorem dX8_everywhere_17 : decode cX8_everywhere 17 = .ok (.ifCond .ne 7, 3) := by decide +kernel
theorem dX8_everywhere_20 : decode cX8_everywhere 20 = .ok (.ldc2_w 219, 3) := by decide +kernel
theorem dX8_everywhere_23 : decode cX8_everywhere 23 = .ok (.lreturn, 1) := by decide +kernel
theorem dX8_everywhere_24 : decode cX8_everywhere 24 = .ok (.iload_n 3, 1) := by decide +kernel
theorem dX8_everywhere_25 : decode cX8_everywhere 25 = .ok (.iconst 1, 1) := by decide +kernel
theorem dX8_everywhere_26 : decode cX8_everywhere 26 = .ok (.invokestatic 78, 3) := by decide +kernel
theorem dX8_everywhere_29 : decode cX8_everywhere 29 = .ok (.ifCond .eq 12, 3) := by decide +kernel
theorem dX8_everywhere_32 : decode cX8_everywhere 32 = .ok (.iload 4, 2) := by decide +kernel
theorem dX8_everywhere_34 : decode cX8_everywhere 34 = .ok (.iconst 1, 1) := by decide +kernel
theorem dX8_everywhere_35 : decode cX8_everywhere 35 = .ok (.invokestatic 78, 3) := by decide +kernel
theorem dX8_everywhere_38 : decode cX8_everywhere 38 = .ok (.ifCond .ne 7, 3) := by decide +kernel
theorem dX8_everywhere_41 : decode cX8_everywhere 41 = .ok (.ldc2_w 219, 3) := by decide +kernel
theorem dX8_everywhere_44 : decode cX8_everywhere 44 = .ok (.lreturn, 1) := by decide +kernel
theorem dX8_everywhere_45 : decode cX8_everywhere 45 = .ok (.iload_n 3, 1) := by decide +kernel
theorem dX8_everywhere_46 : decode cX8_everywhere 46 = .ok (.ifCond .ne 15, 3) := by decide +kernel
theorem dX8_everywhere_49 : decode cX8_everywhere 49 = .ok (.aload_n 0, 1) := by decide +kernel
theorem dX8_everywhere_50 : decode cX8_everywhere 50 = .ok (.getfield 67, 3) := by decide +kernel
theorem dX8_everywhere_53 : decode cX8_everywhere 53 = .ok (.iload_n 1, 1) := by decide +kernel
theorem dX8_everywhere_54 : decode cX8_everywhere 54 = .ok (.iload_n 2, 1) := by decide +kernel
theorem dX8_everywhere_55 : decode cX8_everywhere 55 = .ok (.invokevirtual 221, 3) := by decide +kernel
theorem dX8_everywhere_58 : decode cX8_everywhere 58 = .ok (.goto 11, 3) := by decide +kernel
theorem dX8_everywhere_61 : decode cX8_everywhere 61 = .ok (.aload_n 0, 1) := by decide +kernel
theorem dX8_everywhere_62 : decode cX8_everywhere 62 = .ok (.getfield 67, 3) := by decide +kernel
theorem dX8_everywhere_65 : decode cX8_everywhere 65 = .ok (.iload_n 1, 1) := by decide +kernel
theorem dX8_everywhere_66 : decode cX8_everywhere 66 = .ok (.invokevirtual 225, 3) := by decide +kernel
theorem dX8_everywhere_69 : decode cX8_everywhere 69 = .ok (.aload_n 0, 1) := by decide +kernel
theorem dX8_everywhere_70 : decode cX8_everywhere 70 = .ok (.getfield 67, 3) := by decide +kernel
theorem dX8_everywhere_73 : decode cX8_everywhere 73 = .ok (.iload 4, 2) := by decide +kernel
theorem dX8_everywhere_75 : decode cX8_everywhere 75 = .ok (.invokevirtual 228, 3) := by decide +kernel
theorem dX8_everywhere_78 : decode cX8_everywhere 78 = .ok (.lreturn, 1) := by decide +kernel
set_option maxRecDepth 20000 in
theorem ggX8_year_X8_isUpTo : GoodIn wsX8_year wsX8_isUpTo := goodIn_r _ [6] (by decide +kernel) (by decide +kernel)
set_option maxRecDepth 20000 in
theorem gX8_year_X8_isUpTo : GoodIn wsX8_year (va_wsS RX8 78 yX8_isUpTo wsX8_isUpTo) := goodIn_app (goodIn_of _ (by decide +kernel)) ggX8_year_X8_isUpTo
set_option maxRecDepth 20000 in
theorem ggX8_year_X6_drawYear : GoodIn wsX8_year wsX6_drawYear := goodIn_r _ [11, 12, 13, 14, 15, 16, 17, 18, 19, 10, 20, 21, 22, 23, 24, 25, 26, 27, 28, 29, 30, 31, 32, 33, 34, 35, 36, 37, 38, 39, 40, 41, 42, 43, 44, 45, 46, 47, 48, 49, 50, 51, 52, 53, 54, 55, 56, 57, 58, 5, 59, 60, 61, 62, 63, 64, 65, 66, 67, 68, 69, 70, 71, 72, 73, 74, 75, 76, 77, 78, 79, 80, 81, 82, 83, 84, 85, 86, 87, 88, 89, 90, 91, 92, 93, 94, 95, 96, 97, 98, 99, 100, 101, 102, 119, 120, 121, 122, 123, 124, 125, 126, 127, 128, 129, 130, 131, 132, 133, 134] (by decide +kernel) (by decide +kernel)
set_option maxRecDepth 20000 in
theorem gX8_year_X6_drawYear : GoodIn wsX8_year (wsV RX8 232 RX6 yX6_drawYear wsX6_drawYear) := goodIn_app (goodIn_of _ (by decide +kernel)) ggX8_year_X6_drawYear
set_option maxRecDepth 20000 in
theorem ggX8_year_J6_bitCount_0f7a4 : GoodIn wsX8_year wsJ6_bitCount_0f7a4 := goodIn_r _ [84, 85, 86, 87] (by decide +kernel) (by decide +kernel)
set_option maxRecDepth 20000 in
theorem gX8_year_J6_bitCount_0f7a4 : GoodIn wsX8_year (va_wsS RX8 174 yJ6_bitCount_0f7a4 wsJ6_bitCount_0f7a4) := goodIn_app (goodIn_of _ (by decide +kernel)) ggX8_year_J6_bitCount_0f7a4
set_option maxRecDepth 20000 in
theorem ggX8_year_X7_tiredInAll : GoodIn wsX8_year wsX7_tiredInAll := goodIn_r _ [107, 31, 54, 55, 56, 28, 57, 33, 123, 124, 125, 126, 127, 128, 129, 130, 131, 132, 133, 134] (by decide +kernel) (by decide +kernel)
set_option maxRecDepth 20000 in
theorem gX8_year_X7_tiredInAll : GoodIn wsX8_year (wsV RX8 236 RX7 yX7_tiredInAll wsX7_tiredInAll) := goodIn_app (goodIn_of _ (by decide +kernel)) ggX8_year_X7_tiredInAll
theorem dX8_year_0 : decode cX8_year 0 = .ok (.iload_n 1, 1) := by decide +kernel
theorem dX8_year_1 : decode cX8_year 1 = .ok (.sipush 9999, 3) := by decide +kernel
theorem dX8_year_4 : decode cX8_year 4 = .ok (.invokestatic 78, 3) := by decide +kernel
theorem dX8_year_7 : decode cX8_year 7 = .ok (.ifCond .eq 22, 3) := by decide +kernel
theorem dX8_year_10 : decode cX8_year 10 = .ok (.iload_n 2, 1) := by decide +kernel
theorem dX8_year_11 : decode cX8_year 11 = .ok (.iconst 1, 1) := by decide +kernel
theorem dX8_year_12 : decode cX8_year 12 = .ok (.if_icmp .lt 17, 3) := by decide +kernel
theorem dX8_year_15 : decode cX8_year 15 = .ok (.iload_n 2, 1) := by decide +kernel
theorem dX8_year_16 : decode cX8_year 16 = .ok (.bipush 99, 2) := by decide +kernel
theorem dX8_year_18 : decode cX8_year 18 = .ok (.if_icmp .gt 11, 3) := by decide +kernel
theorem dX8_year_21 : decode cX8_year 21 = .ok (.iload_n 3, 1) := by decide +kernel
theorem dX8_year_22 : decode cX8_year 22 = .ok (.iconst 2, 1) := by decide +kernel
theorem dX8_year_23 : decode cX8_year 23 = .ok (.invokestatic 78, 3) := by decide +kernel
theorem dX8_year_26 : decode cX8_year 26 = .ok (.ifCond .ne 6, 3) := by decide +kernel
theorem dX8_year_29 : decode cX8_year 29 = .ok (.bipush (-2), 2) := by decide +kernel
theorem dX8_year_31 : decode cX8_year 31 = .ok (.ireturn, 1) := by decide +kernel
theorem dX8_year_32 : decode cX8_year 32 = .ok (.aload_n 0, 1) := by decide +kernel
theorem dX8_year_33 : decode cX8_year 33 = .ok (.getfield 32, 3) := by decide +kernel
theorem dX8_year_36 : decode cX8_year 36 = .ok (.aload_n 0, 1) := by decide +kernel
theorem dX8_year_37 : decode cX8_year 37 = .ok (.getfield 10, 3) := by decide +kernel
theorem dX8_year_40 : decode cX8_year 40 = .ok (.iload_n 1, 1) := by decide +kernel
theorem dX8_year_41 : decode cX8_year 41 = .ok (.iload_n 2, 1) := by decide +kernel
theorem dX8_year_42 : decode cX8_year 42 = .ok (.invokevirtual 232, 3) := by decide +kernel
theorem dX8_year_45 : decode cX8_year 45 = .ok (.aload_n 0, 1) := by decide +kernel
theorem dX8_year_46 : decode cX8_year 46 = .ok (.getfield 32, 3) := by decide +kernel
theorem dX8_year_49 : decode cX8_year 49 = .ok (.getfield 127, 3) := by decide +kernel
theorem dX8_year_52 : decode cX8_year 52 = .ok (.astore 4, 2) := by decide +kernel
theorem dX8_year_54 : decode cX8_year 54 = .ok (.iload_n 3, 1) := by decide +kernel
theorem dX8_year_55 : decode cX8_year 55 = .ok (.ifCond .ne 12, 3) := by decide +kernel
theorem dX8_year_58 : decode cX8_year 58 = .ok (.aload 4, 2) := by decide +kernel
theorem dX8_year_60 : decode cX8_year 60 = .ok (.getfield 108, 3) := by decide +kernel
theorem dX8_year_63 : decode cX8_year 63 = .ok (.invokestatic 174, 3) := by decide +kernel
theorem dX8_year_66 : decode cX8_year 66 = .ok (.ireturn, 1) := by decide +kernel
theorem dX8_year_67 : decode cX8_year 67 = .ok (.iload_n 3, 1) := by decide +kernel
theorem dX8_year_68 : decode cX8_year 68 = .ok (.iconst 1, 1) := by decide +kernel
theorem dX8_year_69 : decode cX8_year 69 = .ok (.if_icmp .ne 11, 3) := by decide +kernel
theorem dX8_year_72 : decode cX8_year 72 = .ok (.aload 4, 2) := by decide +kernel
theorem dX8_year_74 : decode cX8_year 74 = .ok (.invokevirtual 236, 3) := by decide +kernel
theorem dX8_year_77 : decode cX8_year 77 = .ok (.goto 8, 3) := by decide +kernel
theorem dX8_year_80 : decode cX8_year 80 = .ok (.aload 4, 2) := by decide +kernel
theorem dX8_year_82 : decode cX8_year 82 = .ok (.getfield 105, 3) := by decide +kernel
theorem dX8_year_85 : decode cX8_year 85 = .ok (.ireturn, 1) := by decide +kernel
set_option maxRecDepth 20000 in
theorem ggX8_image_X8_isUpTo : GoodIn wsX8_image wsX8_isUpTo := goodIn_r _ [6] (by decide +kernel) (by decide +kernel)
set_option maxRecDepth 20000 in
theorem gX8_image_X8_isUpTo : GoodIn wsX8_image (va_wsS RX8 78 yX8_isUpTo wsX8_isUpTo) := goodIn_app (goodIn_of _ (by decide +kernel)) ggX8_image_X8_isUpTo
set_option maxRecDepth 20000 in
theorem ggX8_image_X8_imageOf : GoodIn wsX8_image wsX8_imageOf := goodIn_r _ [10, 11, 12, 33, 34, 35, 36, 37, 38, 39, 40, 41, 42, 43] (by decide +kernel) (by decide +kernel)
set_option maxRecDepth 20000 in
theorem gX8_image_X8_imageOf : GoodIn wsX8_image (wsV RX8 239 RX8 yX8_imageOf wsX8_imageOf) := goodIn_app (goodIn_of _ (by decide +kernel)) ggX8_image_X8_imageOf
set_option maxRecDepth 20000 in
theorem ggX8_image_X7_becomeLike : GoodIn wsX8_image wsX7_becomeLike := goodIn_r _ [17, 18, 19, 20, 21, 22, 23, 24, 25, 26, 27, 28, 29, 44, 45, 46, 47, 48, 49, 50, 51, 52, 53, 54, 55] (by decide +kernel) (by decide +kernel)
set_option maxRecDepth 20000 in
theorem gX8_image_X7_becomeLike : GoodIn wsX8_image (wsV RX8 130 RX7 yX7_becomeLike wsX7_becomeLike) := goodIn_app (goodIn_of _ (by decide +kernel)) ggX8_image_X7_becomeLike
set_option maxRecDepth 20000 in
theorem ggX8_image_X8_withBit : GoodIn wsX8_image wsX8_withBit := goodIn_r _ [32] (by decide +kernel) (by decide +kernel)
set_option maxRecDepth 20000 in
theorem gX8_image_X8_withBit : GoodIn wsX8_image (va_wsS RX8 94 yX8_withBit wsX8_withBit) := goodIn_app (goodIn_of _ (by decide +kernel)) ggX8_image_X8_withBit
theorem dX8_image_0 : decode cX8_image 0 = .ok (.iload_n 1, 1) := by decide +kernel
theorem dX8_image_1 : decode cX8_image 1 = .ok (.iconst 1, 1) := by decide +kernel
theorem dX8_image_2 : decode cX8_image 2 = .ok (.invokestatic 78, 3) := by decide +kernel
theorem dX8_image_5 : decode cX8_image 5 = .ok (.ifCond .ne 6, 3) := by decide +kernel
theorem dX8_image_8 : decode cX8_image 8 = .ok (.bipush (-2), 2) := by decide +kernel
theorem dX8_image_10 : decode cX8_image 10 = .ok (.ireturn, 1) := by decide +kernel
theorem dX8_image_11 : decode cX8_image 11 = .ok (.aload_n 0, 1) := by decide +kernel
theorem dX8_image_12 : decode cX8_image 12 = .ok (.iload_n 1, 1) := by decide +kernel
theorem dX8_image_13 : decode cX8_image 13 = .ok (.invokevirtual 239, 3) := by decide +kernel
theorem dX8_image_16 : decode cX8_image 16 = .ok (.aload_n 0, 1) := by decide +kernel
theorem dX8_image_17 : decode cX8_image 17 = .ok (.getfield 10, 3) := by decide +kernel
theorem dX8_image_20 : decode cX8_image 20 = .ok (.invokevirtual 130, 3) := by decide +kernel
theorem dX8_image_23 : decode cX8_image 23 = .ok (.aload_n 0, 1) := by decide +kernel
theorem dX8_image_24 : decode cX8_image 24 = .ok (.aload_n 0, 1) := by decide +kernel
theorem dX8_image_25 : decode cX8_image 25 = .ok (.getfield 243, 3) := by decide +kernel
theorem dX8_image_28 : decode cX8_image 28 = .ok (.iload_n 1, 1) := by decide +kernel
theorem dX8_image_29 : decode cX8_image 29 = .ok (.iconst 1, 1) := by decide +kernel
theorem dX8_image_30 : decode cX8_image 30 = .ok (.invokestatic 94, 3) := by decide +kernel
theorem dX8_image_33 : decode cX8_image 33 = .ok (.putfield 243, 3) := by decide +kernel
theorem dX8_image_36 : decode cX8_image 36 = .ok (.iconst 1, 1) := by decide +kernel
theorem dX8_image_37 : decode cX8_image 37 = .ok (.ireturn, 1) := by decide +kernel
set_option maxRecDepth 20000 in
theorem ggX8_restore_X8_isUpTo : GoodIn wsX8_restore wsX8_isUpTo := goodIn_r _ [6] (by decide +kernel) (by decide +kernel)
set_option maxRecDepth 20000 in
theorem gX8_restore_X8_isUpTo : GoodIn wsX8_restore (va_wsS RX8 78 yX8_isUpTo wsX8_isUpTo) := goodIn_app (goodIn_of _ (by decide +kernel)) ggX8_restore_X8_isUpTo
set_option maxRecDepth 20000 in
theorem ggX8_restore_X8_hasBit : GoodIn wsX8_restore wsX8_hasBit := goodIn_r _ [9] (by decide +kernel) (by decide +kernel)
set_option maxRecDepth 20000 in
theorem gX8_restore_X8_hasBit : GoodIn wsX8_restore (va_wsS RX8 246 yX8_hasBit wsX8_hasBit) := goodIn_app (goodIn_of _ (by decide +kernel)) ggX8_restore_X8_hasBit
set_option maxRecDepth 20000 in
theorem ggX8_restore_X8_imageOf : GoodIn wsX8_restore wsX8_imageOf := goodIn_r _ [13, 14, 15, 33, 34, 35, 36, 37, 38, 39, 40, 41, 42, 43] (by decide +kernel) (by decide +kernel)
set_option maxRecDepth 20000 in
theorem gX8_restore_X8_imageOf : GoodIn wsX8_restore (wsV RX8 239 RX8 yX8_imageOf wsX8_imageOf) := goodIn_app (goodIn_of _ (by decide +kernel)) ggX8_restore_X8_imageOf
set_option maxRecDepth 20000 in
theorem ggX8_restore_X7_becomeLike : GoodIn wsX8_restore wsX7_becomeLike := goodIn_r _ [20, 21, 22, 23, 24, 25, 26, 27, 28, 29, 30, 31, 32, 44, 45, 46, 47, 48, 49, 50, 51, 52, 53, 54, 55] (by decide +kernel) (by decide +kernel)
set_option maxRecDepth 20000 in
theorem gX8_restore_X7_becomeLike : GoodIn wsX8_restore (wsV RX8 130 RX7 yX7_becomeLike wsX7_becomeLike) := goodIn_app (goodIn_of _ (by decide +kernel)) ggX8_restore_X7_becomeLike
theorem dX8_restore_0 : decode cX8_restore 0 = .ok (.iload_n 1, 1) := by decide +kernel
theorem dX8_restore_1 : decode cX8_restore 1 = .ok (.iconst 1, 1) := by decide +kernel
theorem dX8_restore_2 : decode cX8_restore 2 = .ok (.invokestatic 78, 3) := by decide +kernel
theorem dX8_restore_5 : decode cX8_restore 5 = .ok (.ifCond .ne 6, 3) := by decide +kernel
theorem dX8_restore_8 : decode cX8_restore 8 = .ok (.bipush (-2), 2) := by decide +kernel
theorem dX8_restore_10 : decode cX8_restore 10 = .ok (.ireturn, 1) := by decide +kernel
theorem dX8_restore_11 : decode cX8_restore 11 = .ok (.aload_n 0, 1) := by decide +kernel
theorem dX8_restore_12 : decode cX8_restore 12 = .ok (.getfield 243, 3) := by decide +kernel
theorem dX8_restore_15 : decode cX8_restore 15 = .ok (.iload_n 1, 1) := by decide +kernel
theorem dX8_restore_16 : decode cX8_restore 16 = .ok (.invokestatic 246, 3) := by decide +kernel
theorem dX8_restore_19 : decode cX8_restore 19 = .ok (.ifCond .ne 6, 3) := by decide +kernel
theorem dX8_restore_22 : decode cX8_restore 22 = .ok (.bipush (-3), 2) := by decide +kernel
theorem dX8_restore_24 : decode cX8_restore 24 = .ok (.ireturn, 1) := by decide +kernel
theorem dX8_restore_25 : decode cX8_restore 25 = .ok (.aload_n 0, 1) := by decide +kernel
theorem dX8_restore_26 : decode cX8_restore 26 = .ok (.getfield 10, 3) := by decide +kernel
theorem dX8_restore_29 : decode cX8_restore 29 = .ok (.aload_n 0, 1) := by decide +kernel
theorem dX8_restore_30 : decode cX8_restore 30 = .ok (.iload_n 1, 1) := by decide +kernel
theorem dX8_restore_31 : decode cX8_restore 31 = .ok (.invokevirtual 239, 3) := by decide +kernel
theorem dX8_restore_34 : decode cX8_restore 34 = .ok (.invokevirtual 130, 3) := by decide +kernel
theorem dX8_restore_37 : decode cX8_restore 37 = .ok (.iconst 1, 1) := by decide +kernel
theorem dX8_restore_38 : decode cX8_restore 38 = .ok (.ireturn, 1) := by decide +kernel
set_option maxRecDepth 20000 in
theorem ggX8_told_X8_tellOfAll : GoodIn wsX8_told wsX8_tellOfAll := goodIn_r _ [6, 7, 1, 30, 31, 32, 33, 34, 35, 36, 37, 38, 39, 40, 53, 54, 55, 56, 57, 58, 41, 42, 43, 44, 45, 46, 47, 48, 49, 50, 51, 52] (by decide +kernel) (by decide +kernel)
set_option maxRecDepth 20000 in
theorem gX8_told_X8_tellOfAll : GoodIn wsX8_told (wsV RX8 249 RX8 yX8_tellOfAll wsX8_tellOfAll) := goodIn_app (goodIn_of _ (by decide +kernel)) ggX8_told_X8_tellOfAll
set_option maxRecDepth 20000 in
theorem ggX8_told_X8_isParish : GoodIn wsX8_told wsX8_isParish := goodIn_r _ [10, 11, 12, 5, 13] (by decide +kernel) (by decide +kernel)
set_option maxRecDepth 20000 in
theorem gX8_told_X8_isParish : GoodIn wsX8_told (va_wsS RX8 71 yX8_isParish wsX8_isParish) := goodIn_app (goodIn_of _ (by decide +kernel)) ggX8_told_X8_isParish
set_option maxRecDepth 20000 in
theorem ggX8_told_X7_isThere : GoodIn wsX8_told wsX7_isThere := goodIn_r _ [18, 19, 41, 42, 43, 44, 45, 46, 47, 48, 49, 50, 51, 52] (by decide +kernel) (by decide +kernel)
set_option maxRecDepth 20000 in
theorem gX8_told_X7_isThere : GoodIn wsX8_told (wsV RX8 134 RX7 yX7_isThere wsX7_isThere) := goodIn_app (goodIn_of _ (by decide +kernel)) ggX8_told_X7_isThere
set_option maxRecDepth 20000 in
theorem ggX8_told_X7_tell : GoodIn wsX8_told wsX7_tell := goodIn_r _ [23, 24, 25, 26, 27, 15, 16, 17, 18, 19, 28, 5, 29, 41, 42, 43, 44, 45, 46, 47, 48, 49, 50, 51, 52] (by decide +kernel) (by decide +kernel)
set_option maxRecDepth 20000 in
theorem gX8_told_X7_tell : GoodIn wsX8_told (wsV RX8 137 RX7 yX7_tell wsX7_tell) := goodIn_app (goodIn_of _ (by decide +kernel)) ggX8_told_X7_tell
theorem dX8_told_0 : decode cX8_told 0 = .ok (.iload_n 1, 1) := by decide +kernel
theorem dX8_told_1 : decode cX8_told 1 = .ok (.bipush 10, 2) := by decide +kernel
theorem dX8_told_3 : decode cX8_told 3 = .ok (.if_icmp .ge 9, 3) := by decide +kernel
theorem dX8_told_6 : decode cX8_told 6 = .ok (.aload_n 0, 1) := by decide +kernel
theorem dX8_told_7 : decode cX8_told 7 = .ok (.iload_n 1, 1) := by decide +kernel
theorem dX8_told_8 : decode cX8_told 8 = .ok (.invokevirtual 249, 3) := by decide +kernel
theorem dX8_told_11 : decode cX8_told 11 = .ok (.ireturn, 1) := by decide +kernel
theorem dX8_told_12 : decode cX8_told 12 = .ok (.iload_n 1, 1) := by decide +kernel
theorem dX8_told_13 : decode cX8_told 13 = .ok (.bipush 10, 2) := by decide +kernel
theorem dX8_told_15 : decode cX8_told 15 = .ok (.irem, 1) := by decide +kernel
theorem dX8_told_16 : decode cX8_told 16 = .ok (.istore_n 2, 1) := by decide +kernel
theorem dX8_told_17 : decode cX8_told 17 = .ok (.iload_n 1, 1) := by decide +kernel
theorem dX8_told_18 : decode cX8_told 18 = .ok (.bipush 49, 2) := by decide +kernel
theorem dX8_told_20 : decode cX8_told 20 = .ok (.if_icmp .gt 10, 3) := by decide +kernel
theorem dX8_told_23 : decode cX8_told 23 = .ok (.iload_n 2, 1) := by decide +kernel
theorem dX8_told_24 : decode cX8_told 24 = .ok (.invokestatic 71, 3) := by decide +kernel
theorem dX8_told_27 : decode cX8_told 27 = .ok (.ifCond .ne 6, 3) := by decide +kernel
theorem dX8_told_30 : decode cX8_told 30 = .ok (.bipush (-2), 2) := by decide +kernel
theorem dX8_told_32 : decode cX8_told 32 = .ok (.ireturn, 1) := by decide +kernel
theorem dX8_told_33 : decode cX8_told 33 = .ok (.iload_n 1, 1) := by decide +kernel
theorem dX8_told_34 : decode cX8_told 34 = .ok (.bipush 20, 2) := by decide +kernel
theorem dX8_told_36 : decode cX8_told 36 = .ok (.if_icmp .ge 13, 3) := by decide +kernel
theorem dX8_told_39 : decode cX8_told 39 = .ok (.aload_n 0, 1) := by decide +kernel
theorem dX8_told_40 : decode cX8_told 40 = .ok (.getfield 10, 3) := by decide +kernel
theorem dX8_told_43 : decode cX8_told 43 = .ok (.getfield 90, 3) := by decide +kernel
theorem dX8_told_46 : decode cX8_told 46 = .ok (.iload_n 2, 1) := by decide +kernel
theorem dX8_told_47 : decode cX8_told 47 = .ok (.iaload, 1) := by decide +kernel
theorem dX8_told_48 : decode cX8_told 48 = .ok (.ireturn, 1) := by decide +kernel
theorem dX8_told_49 : decode cX8_told 49 = .ok (.aload_n 0, 1) := by decide +kernel
theorem dX8_told_50 : decode cX8_told 50 = .ok (.getfield 10, 3) := by decide +kernel
theorem dX8_told_53 : decode cX8_told 53 = .ok (.iload_n 2, 1) := by decide +kernel
theorem dX8_told_54 : decode cX8_told 54 = .ok (.invokevirtual 134, 3) := by decide +kernel
theorem dX8_told_57 : decode cX8_told 57 = .ok (.ifCond .eq 20, 3) := by decide +kernel
theorem dX8_told_60 : decode cX8_told 60 = .ok (.aload_n 0, 1) := by decide +kernel
theorem dX8_told_61 : decode cX8_told 61 = .ok (.getfield 10, 3) := by decide +kernel
theorem dX8_told_64 : decode cX8_told 64 = .ok (.iload_n 2, 1) := by decide +kernel
theorem dX8_told_65 : decode cX8_told 65 = .ok (.iload_n 1, 1) := by decide +kernel
theorem dX8_told_66 : decode cX8_told 66 = .ok (.bipush 10, 2) := by decide +kernel
theorem dX8_told_68 : decode cX8_told 68 = .ok (.idiv, 1) := by decide +kernel
theorem dX8_told_69 : decode cX8_told 69 = .ok (.iconst 2, 1) := by decide +kernel
theorem dX8_told_70 : decode cX8_told 70 = .ok (.isub, 1) := by decide +kernel
theorem dX8_told_71 : decode cX8_told 71 = .ok (.invokevirtual 137, 3) := by decide +kernel
theorem dX8_told_74 : decode cX8_told 74 = .ok (.goto 5, 3) := by decide +kernel
theorem dX8_told_77 : decode cX8_told 77 = .ok (.bipush (-2), 2) := by decide +kernel
theorem dX8_told_79 : decode cX8_told 79 = .ok (.ireturn, 1) := by decide +kernel
theorem dX8_tellOfAll_0 : decode cX8_tellOfAll 0 = .ok (.iload_n 1, 1) := by decide +kernel
theorem dX8_tellOfAll_1 : decode cX8_tellOfAll 1 = .ok (.tableswitch 99 0 6 #[43, 51, 59, 67, 75, 83, 91], 43) := by decide +kernel
theorem dX8_tellOfAll_44 : decode cX8_tellOfAll 44 = .ok (.aload_n 0, 1) := by decide +kernel
theorem dX8_tellOfAll_45 : decode cX8_tellOfAll 45 = .ok (.getfield 25, 3) := by decide +kernel
theorem dX8_tellOfAll_48 : decode cX8_tellOfAll 48 = .ok (.getfield 114, 3) := by decide +kernel
theorem dX8_tellOfAll_51 : decode cX8_tellOfAll 51 = .ok (.ireturn, 1) := by decide +kernel
theorem dX8_tellOfAll_52 : decode cX8_tellOfAll 52 = .ok (.aload_n 0, 1) := by decide +kernel
theorem dX8_tellOfAll_53 : decode cX8_tellOfAll 53 = .ok (.getfield 10, 3) := by decide +kernel
theorem dX8_tellOfAll_56 : decode cX8_tellOfAll 56 = .ok (.getfield 252, 3) := by decide +kernel
theorem dX8_tellOfAll_59 : decode cX8_tellOfAll 59 = .ok (.ireturn, 1) := by decide +kernel
theorem dX8_tellOfAll_60 : decode cX8_tellOfAll 60 = .ok (.aload_n 0, 1) := by decide +kernel
theorem dX8_tellOfAll_61 : decode cX8_tellOfAll 61 = .ok (.getfield 10, 3) := by decide +kernel
theorem dX8_tellOfAll_64 : decode cX8_tellOfAll 64 = .ok (.getfield 108, 3) := by decide +kernel
theorem dX8_tellOfAll_67 : decode cX8_tellOfAll 67 = .ok (.ireturn, 1) := by decide +kernel
theorem dX8_tellOfAll_68 : decode cX8_tellOfAll 68 = .ok (.aload_n 0, 1) := by decide +kernel
theorem dX8_tellOfAll_69 : decode cX8_tellOfAll 69 = .ok (.getfield 10, 3) := by decide +kernel
theorem dX8_tellOfAll_72 : decode cX8_tellOfAll 72 = .ok (.getfield 101, 3) := by decide +kernel
theorem dX8_tellOfAll_75 : decode cX8_tellOfAll 75 = .ok (.ireturn, 1) := by decide +kernel
theorem dX8_tellOfAll_76 : decode cX8_tellOfAll 76 = .ok (.aload_n 0, 1) := by decide +kernel
theorem dX8_tellOfAll_77 : decode cX8_tellOfAll 77 = .ok (.getfield 10, 3) := by decide +kernel
theorem dX8_tellOfAll_80 : decode cX8_tellOfAll 80 = .ok (.getfield 105, 3) := by decide +kernel
theorem dX8_tellOfAll_83 : decode cX8_tellOfAll 83 = .ok (.ireturn, 1) := by decide +kernel
theorem dX8_tellOfAll_84 : decode cX8_tellOfAll 84 = .ok (.aload_n 0, 1) := by decide +kernel
theorem dX8_tellOfAll_85 : decode cX8_tellOfAll 85 = .ok (.getfield 10, 3) := by decide +kernel
theorem dX8_tellOfAll_88 : decode cX8_tellOfAll 88 = .ok (.getfield 141, 3) := by decide +kernel
theorem dX8_tellOfAll_91 : decode cX8_tellOfAll 91 = .ok (.ireturn, 1) := by decide +kernel
theorem dX8_tellOfAll_92 : decode cX8_tellOfAll 92 = .ok (.aload_n 0, 1) := by decide +kernel
theorem dX8_tellOfAll_93 : decode cX8_tellOfAll 93 = .ok (.getfield 10, 3) := by decide +kernel
theorem dX8_tellOfAll_96 : decode cX8_tellOfAll 96 = .ok (.getfield 190, 3) := by decide +kernel
theorem dX8_tellOfAll_99 : decode cX8_tellOfAll 99 = .ok (.ireturn, 1) := by decide +kernel
theorem dX8_tellOfAll_100 : decode cX8_tellOfAll 100 = .ok (.bipush (-2), 2) := by decide +kernel
theorem dX8_tellOfAll_102 : decode cX8_tellOfAll 102 = .ok (.ireturn, 1) := by decide +kernel
theorem dX8_imageOf_0 : decode cX8_imageOf 0 = .ok (.iload_n 1, 1) := by decide +kernel
theorem dX8_imageOf_1 : decode cX8_imageOf 1 = .ok (.ifCond .ne 10, 3) := by decide +kernel
theorem dX8_imageOf_4 : decode cX8_imageOf 4 = .ok (.aload_n 0, 1) := by decide +kernel
theorem dX8_imageOf_5 : decode cX8_imageOf 5 = .ok (.getfield 16, 3) := by decide +kernel
theorem dX8_imageOf_8 : decode cX8_imageOf 8 = .ok (.goto 7, 3) := by decide +kernel
theorem dX8_imageOf_11 : decode cX8_imageOf 11 = .ok (.aload_n 0, 1) := by decide +kernel
theorem dX8_imageOf_12 : decode cX8_imageOf 12 = .ok (.getfield 19, 3) := by decide +kernel
theorem dX8_imageOf_15 : decode cX8_imageOf 15 = .ok (.areturn, 1) := by decide +kernel
theorem dX8_isUpTo_0 : decode cX8_isUpTo 0 = .ok (.iload_n 0, 1) := by decide +kernel
theorem dX8_isUpTo_1 : decode cX8_isUpTo 1 = .ok (.ifCond .lt 12, 3) := by decide +kernel
theorem dX8_isUpTo_4 : decode cX8_isUpTo 4 = .ok (.iload_n 0, 1) := by decide +kernel
theorem dX8_isUpTo_5 : decode cX8_isUpTo 5 = .ok (.iload_n 1, 1) := by decide +kernel
theorem dX8_isUpTo_6 : decode cX8_isUpTo 6 = .ok (.if_icmp .gt 7, 3) := by decide +kernel
theorem dX8_isUpTo_9 : decode cX8_isUpTo 9 = .ok (.iconst 1, 1) := by decide +kernel
theorem dX8_isUpTo_10 : decode cX8_isUpTo 10 = .ok (.goto 4, 3) := by decide +kernel
theorem dX8_isUpTo_13 : decode cX8_isUpTo 13 = .ok (.iconst 0, 1) := by decide +kernel
theorem dX8_isUpTo_14 : decode cX8_isUpTo 14 = .ok (.ireturn, 1) := by decide +kernel
set_option maxRecDepth 20000 in
theorem ggX8_isParish_X8_isUpTo : GoodIn wsX8_isParish wsX8_isUpTo := goodIn_r _ [4] (by decide +kernel) (by decide +kernel)
set_option maxRecDepth 20000 in
theorem gX8_isParish_X8_isUpTo : GoodIn wsX8_isParish (va_wsS RX8 78 yX8_isUpTo wsX8_isUpTo) := goodIn_app (goodIn_of _ (by decide +kernel)) ggX8_isParish_X8_isUpTo
theorem dX8_isParish_0 : decode cX8_isParish 0 = .ok (.iload_n 0, 1) := by decide +kernel
theorem dX8_isParish_1 : decode cX8_isParish 1 = .ok (.bipush 6, 2) := by decide +kernel
theorem dX8_isParish_3 : decode cX8_isParish 3 = .ok (.invokestatic 78, 3) := by decide +kernel
theorem dX8_isParish_6 : decode cX8_isParish 6 = .ok (.ireturn, 1) := by decide +kernel
set_option maxRecDepth 20000 in
theorem ggX8_isWay_X8_isUpTo : GoodIn wsX8_isWay wsX8_isUpTo := goodIn_r _ [4] (by decide +kernel) (by decide +kernel)
set_option maxRecDepth 20000 in
theorem gX8_isWay_X8_isUpTo : GoodIn wsX8_isWay (va_wsS RX8 78 yX8_isUpTo wsX8_isUpTo) := goodIn_app (goodIn_of _ (by decide +kernel)) ggX8_isWay_X8_isUpTo
theorem dX8_isWay_0 : decode cX8_isWay 0 = .ok (.iload_n 0, 1) := by decide +kernel
theorem dX8_isWay_1 : decode cX8_isWay 1 = .ok (.bipush 7, 2) := by decide +kernel
theorem dX8_isWay_3 : decode cX8_isWay 3 = .ok (.invokestatic 78, 3) := by decide +kernel
theorem dX8_isWay_6 : decode cX8_isWay 6 = .ok (.ireturn, 1) := by decide +kernel
theorem dX8_hasBit_0 : decode cX8_hasBit 0 = .ok (.iload_n 0, 1) := by decide +kernel
theorem dX8_hasBit_1 : decode cX8_hasBit 1 = .ok (.iload_n 1, 1) := by decide +kernel
theorem dX8_hasBit_2 : decode cX8_hasBit 2 = .ok (.ishr, 1) := by decide +kernel
theorem dX8_hasBit_3 : decode cX8_hasBit 3 = .ok (.iconst 1, 1) := by decide +kernel
theorem dX8_hasBit_4 : decode cX8_hasBit 4 = .ok (.iand, 1) := by decide +kernel
theorem dX8_hasBit_5 : decode cX8_hasBit 5 = .ok (.ifCond .eq 7, 3) := by decide +kernel
theorem dX8_hasBit_8 : decode cX8_hasBit 8 = .ok (.iconst 1, 1) := by decide +kernel
theorem dX8_hasBit_9 : decode cX8_hasBit 9 = .ok (.goto 4, 3) := by decide +kernel
theorem dX8_hasBit_12 : decode cX8_hasBit 12 = .ok (.iconst 0, 1) := by decide +kernel
theorem dX8_hasBit_13 : decode cX8_hasBit 13 = .ok (.ireturn, 1) := by decide +kernel
theorem dX8_withBit_0 : decode cX8_withBit 0 = .ok (.iload_n 2, 1) := by decide +kernel
theorem dX8_withBit_1 : decode cX8_withBit 1 = .ok (.ifCond .eq 11, 3) := by decide +kernel
theorem dX8_withBit_4 : decode cX8_withBit 4 = .ok (.iload_n 0, 1) := by decide +kernel
theorem dX8_withBit_5 : decode cX8_withBit 5 = .ok (.iconst 1, 1) := by decide +kernel
theorem dX8_withBit_6 : decode cX8_withBit 6 = .ok (.iload_n 1, 1) := by decide +kernel
theorem dX8_withBit_7 : decode cX8_withBit 7 = .ok (.ishl, 1) := by decide +kernel
theorem dX8_withBit_8 : decode cX8_withBit 8 = .ok (.ior, 1) := by decide +kernel
theorem dX8_withBit_9 : decode cX8_withBit 9 = .ok (.goto 10, 3) := by decide +kernel
theorem dX8_withBit_12 : decode cX8_withBit 12 = .ok (.iload_n 0, 1) := by decide +kernel
theorem dX8_withBit_13 : decode cX8_withBit 13 = .ok (.iconst 1, 1) := by decide +kernel
theorem dX8_withBit_14 : decode cX8_withBit 14 = .ok (.iload_n 1, 1) := by decide +kernel
theorem dX8_withBit_15 : decode cX8_withBit 15 = .ok (.ishl, 1) := by decide +kernel
theorem dX8_withBit_16 : decode cX8_withBit 16 = .ok (.iconst (-1), 1) := by decide +kernel
theorem dX8_withBit_17 : decode cX8_withBit 17 = .ok (.ixor, 1) := by decide +kernel
theorem dX8_withBit_18 : decode cX8_withBit 18 = .ok (.iand, 1) := by decide +kernel
theorem dX8_withBit_19 : decode cX8_withBit 19 = .ok (.ireturn, 1) := by decide +kernel
theorem dX8_apart_0 : decode cX8_apart 0 = .ok (.iload_n 0, 1) := by decide +kernel
theorem dX8_apart_1 : decode cX8_apart 1 = .ok (.iload_n 1, 1) := by decide +kernel
theorem dX8_apart_2 : decode cX8_apart 2 = .ok (.isub, 1) := by decide +kernel
theorem dX8_apart_3 : decode cX8_apart 3 = .ok (.bipush 7, 2) := by decide +kernel
theorem dX8_apart_5 : decode cX8_apart 5 = .ok (.iand, 1) := by decide +kernel
theorem dX8_apart_6 : decode cX8_apart 6 = .ok (.istore_n 2, 1) := by decide +kernel
theorem dX8_apart_7 : decode cX8_apart 7 = .ok (.iload_n 2, 1) := by decide +kernel
theorem dX8_apart_8 : decode cX8_apart 8 = .ok (.bipush 8, 2) := by decide +kernel
theorem dX8_apart_10 : decode cX8_apart 10 = .ok (.iload_n 2, 1) := by decide +kernel
theorem dX8_apart_11 : decode cX8_apart 11 = .ok (.isub, 1) := by decide +kernel
theorem dX8_apart_12 : decode cX8_apart 12 = .ok (.invokestatic 255, 3) := by decide +kernel
theorem dX8_apart_15 : decode cX8_apart 15 = .ok (.ireturn, 1) := by decide +kernel
