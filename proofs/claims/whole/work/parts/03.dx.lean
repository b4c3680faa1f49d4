theorem dX0_init_0 : decode cX0_init 0 = .ok (.aload_n 0, 1) := by decide +kernel
theorem dX0_init_1 : decode cX0_init 1 = .ok (.invokespecial 3, 3) := by decide +kernel
theorem dX0_init_4 : decode cX0_init 4 = .ok (.aload_n 0, 1) := by decide +kernel
theorem dX0_init_5 : decode cX0_init 5 = .ok (.bipush 8, 2) := by decide +kernel
theorem dX0_init_7 : decode cX0_init 7 = .ok (.newarray .int, 2) := by decide +kernel
theorem dX0_init_9 : decode cX0_init 9 = .ok (.putfield 9, 3) := by decide +kernel
theorem dX0_init_12 : decode cX0_init 12 = .ok (.aload_n 0, 1) := by decide +kernel
theorem dX0_init_13 : decode cX0_init 13 = .ok (.bipush 8, 2) := by decide +kernel
theorem dX0_init_15 : decode cX0_init 15 = .ok (.newarray .int, 2) := by decide +kernel
theorem dX0_init_17 : decode cX0_init 17 = .ok (.putfield 15, 3) := by decide +kernel
theorem dX0_init_20 : decode cX0_init 20 = .ok (.return_, 1) := by decide +kernel
set_option maxRecDepth 20000 in
theorem ggX0_readRow_X8_isWay : GoodIn wsX0_readRow wsX8_isWay := goodIn_r _ [8, 9, 10, 7, 11] (by decide +kernel) (by decide +kernel)
set_option maxRecDepth 20000 in
theorem gX0_readRow_X8_isWay_n24 : GoodIn wsX0_readRow (wsX8_isWay) := ggX0_readRow_X8_isWay
set_option maxRecDepth 20000 in
theorem ggX0_readRow_X8_withBit : GoodIn wsX0_readRow wsX8_withBit := goodIn_r _ [13] (by decide +kernel) (by decide +kernel)
set_option maxRecDepth 20000 in
theorem gX0_readRow_X8_withBit_n28 : GoodIn wsX0_readRow (wsX8_withBit) := ggX0_readRow_X8_withBit
set_option maxRecDepth 20000 in
theorem ggX0_readRow_J6_bitCount_0f7a4 : GoodIn wsX0_readRow wsJ6_bitCount_0f7a4 := goodIn_r _ [17, 18, 19, 20] (by decide +kernel) (by decide +kernel)
set_option maxRecDepth 20000 in
theorem gX0_readRow_J6_bitCount_0f7a4 : GoodIn wsX0_readRow (va_wsS RX0 32 yJ6_bitCount_0f7a4 wsJ6_bitCount_0f7a4) := goodIn_app (goodIn_of _ (by decide +kernel)) ggX0_readRow_J6_bitCount_0f7a4
theorem dX0_readRow_0 : decode cX0_readRow 0 = .ok (.iload_n 1, 1) := by decide +kernel
theorem dX0_readRow_1 : decode cX0_readRow 1 = .ok (.istore_n 3, 1) := by decide +kernel
theorem dX0_readRow_2 : decode cX0_readRow 2 = .ok (.iconst 0, 1) := by decide +kernel
theorem dX0_readRow_3 : decode cX0_readRow 3 = .ok (.istore 4, 2) := by decide +kernel
theorem dX0_readRow_5 : decode cX0_readRow 5 = .ok (.iload_n 2, 1) := by decide +kernel
theorem dX0_readRow_6 : decode cX0_readRow 6 = .ok (.bipush 8, 2) := by decide +kernel
theorem dX0_readRow_8 : decode cX0_readRow 8 = .ok (.invokestatic 18, 3) := by decide +kernel
theorem dX0_readRow_11 : decode cX0_readRow 11 = .ok (.iconst 1, 1) := by decide +kernel
theorem dX0_readRow_12 : decode cX0_readRow 12 = .ok (.isub, 1) := by decide +kernel
theorem dX0_readRow_13 : decode cX0_readRow 13 = .ok (.istore 5, 2) := by decide +kernel
theorem dX0_readRow_15 : decode cX0_readRow 15 = .ok (.iload 5, 2) := by decide +kernel
theorem dX0_readRow_17 : decode cX0_readRow 17 = .ok (.ifCond .lt 49, 3) := by decide +kernel
theorem dX0_readRow_20 : decode cX0_readRow 20 = .ok (.iload_n 3, 1) := by decide +kernel
theorem dX0_readRow_21 : decode cX0_readRow 21 = .ok (.bipush 10, 2) := by decide +kernel
theorem dX0_readRow_23 : decode cX0_readRow 23 = .ok (.irem, 1) := by decide +kernel
theorem dX0_readRow_24 : decode cX0_readRow 24 = .ok (.istore 6, 2) := by decide +kernel
theorem dX0_readRow_26 : decode cX0_readRow 26 = .ok (.iload 6, 2) := by decide +kernel
theorem dX0_readRow_28 : decode cX0_readRow 28 = .ok (.invokestatic 24, 3) := by decide +kernel
theorem dX0_readRow_31 : decode cX0_readRow 31 = .ok (.ifCond .ne 5, 3) := by decide +kernel
theorem dX0_readRow_34 : decode cX0_readRow 34 = .ok (.iconst 0, 1) := by decide +kernel
theorem dX0_readRow_35 : decode cX0_readRow 35 = .ok (.ireturn, 1) := by decide +kernel
theorem dX0_readRow_36 : decode cX0_readRow 36 = .ok (.aload_n 0, 1) := by decide +kernel
theorem dX0_readRow_37 : decode cX0_readRow 37 = .ok (.getfield 9, 3) := by decide +kernel
theorem dX0_readRow_40 : decode cX0_readRow 40 = .ok (.iload 5, 2) := by decide +kernel
theorem dX0_readRow_42 : decode cX0_readRow 42 = .ok (.iload 6, 2) := by decide +kernel
theorem dX0_readRow_44 : decode cX0_readRow 44 = .ok (.iastore, 1) := by decide +kernel
theorem dX0_readRow_45 : decode cX0_readRow 45 = .ok (.iload 4, 2) := by decide +kernel
theorem dX0_readRow_47 : decode cX0_readRow 47 = .ok (.iload 6, 2) := by decide +kernel
theorem dX0_readRow_49 : decode cX0_readRow 49 = .ok (.iconst 1, 1) := by decide +kernel
theorem dX0_readRow_50 : decode cX0_readRow 50 = .ok (.invokestatic 28, 3) := by decide +kernel
theorem dX0_readRow_53 : decode cX0_readRow 53 = .ok (.istore 4, 2) := by decide +kernel
theorem dX0_readRow_55 : decode cX0_readRow 55 = .ok (.iload_n 3, 1) := by decide +kernel
theorem dX0_readRow_56 : decode cX0_readRow 56 = .ok (.bipush 10, 2) := by decide +kernel
theorem dX0_readRow_58 : decode cX0_readRow 58 = .ok (.idiv, 1) := by decide +kernel
theorem dX0_readRow_59 : decode cX0_readRow 59 = .ok (.istore_n 3, 1) := by decide +kernel
theorem dX0_readRow_60 : decode cX0_readRow 60 = .ok (.iinc 5 (-1), 3) := by decide +kernel
theorem dX0_readRow_63 : decode cX0_readRow 63 = .ok (.goto (-48), 3) := by decide +kernel
theorem dX0_readRow_66 : decode cX0_readRow 66 = .ok (.iload_n 3, 1) := by decide +kernel
theorem dX0_readRow_67 : decode cX0_readRow 67 = .ok (.ifCond .ne 16, 3) := by decide +kernel
theorem dX0_readRow_70 : decode cX0_readRow 70 = .ok (.iload 4, 2) := by decide +kernel
theorem dX0_readRow_72 : decode cX0_readRow 72 = .ok (.invokestatic 32, 3) := by decide +kernel
theorem dX0_readRow_75 : decode cX0_readRow 75 = .ok (.iload_n 2, 1) := by decide +kernel
theorem dX0_readRow_76 : decode cX0_readRow 76 = .ok (.if_icmp .ne 7, 3) := by decide +kernel
theorem dX0_readRow_79 : decode cX0_readRow 79 = .ok (.iconst 1, 1) := by decide +kernel
theorem dX0_readRow_80 : decode cX0_readRow 80 = .ok (.goto 4, 3) := by decide +kernel
theorem dX0_readRow_83 : decode cX0_readRow 83 = .ok (.iconst 0, 1) := by decide +kernel
theorem dX0_readRow_84 : decode cX0_readRow 84 = .ok (.ireturn, 1) := by decide +kernel
set_option maxRecDepth 20000 in
theorem ggX0_leftOf_X0_beats : GoodIn wsX0_leftOf wsX0_beats := goodIn_r _ [5, 6, 7, 8, 9, 10, 11, 12, 13, 14, 15, 16, 17, 18, 19, 20, 21, 22, 25, 26, 27, 28, 29, 30, 31, 32, 33, 34, 35, 36] (by decide +kernel) (by decide +kernel)
set_option maxRecDepth 20000 in
theorem gX0_leftOf_X0_beats : GoodIn wsX0_leftOf (va_wsS RX0 38 yX0_beats wsX0_beats) := goodIn_app (goodIn_of _ (by decide +kernel)) ggX0_leftOf_X0_beats
theorem dX0_leftOf_0 : decode cX0_leftOf 0 = .ok (.aload_n 0, 1) := by decide +kernel
theorem dX0_leftOf_1 : decode cX0_leftOf 1 = .ok (.getfield 9, 3) := by decide +kernel
theorem dX0_leftOf_4 : decode cX0_leftOf 4 = .ok (.iconst 0, 1) := by decide +kernel
theorem dX0_leftOf_5 : decode cX0_leftOf 5 = .ok (.iaload, 1) := by decide +kernel
theorem dX0_leftOf_6 : decode cX0_leftOf 6 = .ok (.istore_n 3, 1) := by decide +kernel
theorem dX0_leftOf_7 : decode cX0_leftOf 7 = .ok (.iconst 1, 1) := by decide +kernel
theorem dX0_leftOf_8 : decode cX0_leftOf 8 = .ok (.istore 4, 2) := by decide +kernel
theorem dX0_leftOf_10 : decode cX0_leftOf 10 = .ok (.iload 4, 2) := by decide +kernel
theorem dX0_leftOf_12 : decode cX0_leftOf 12 = .ok (.iload_n 2, 1) := by decide +kernel
theorem dX0_leftOf_13 : decode cX0_leftOf 13 = .ok (.if_icmp .ge 39, 3) := by decide +kernel
theorem dX0_leftOf_16 : decode cX0_leftOf 16 = .ok (.iload 4, 2) := by decide +kernel
theorem dX0_leftOf_18 : decode cX0_leftOf 18 = .ok (.bipush 8, 2) := by decide +kernel
theorem dX0_leftOf_20 : decode cX0_leftOf 20 = .ok (.if_icmp .ge 32, 3) := by decide +kernel
theorem dX0_leftOf_23 : decode cX0_leftOf 23 = .ok (.aload_n 1, 1) := by decide +kernel
theorem dX0_leftOf_24 : decode cX0_leftOf 24 = .ok (.iload_n 3, 1) := by decide +kernel
theorem dX0_leftOf_25 : decode cX0_leftOf 25 = .ok (.aload_n 0, 1) := by decide +kernel
theorem dX0_leftOf_26 : decode cX0_leftOf 26 = .ok (.getfield 9, 3) := by decide +kernel
theorem dX0_leftOf_29 : decode cX0_leftOf 29 = .ok (.iload 4, 2) := by decide +kernel
theorem dX0_leftOf_31 : decode cX0_leftOf 31 = .ok (.iaload, 1) := by decide +kernel
theorem dX0_leftOf_32 : decode cX0_leftOf 32 = .ok (.invokestatic 38, 3) := by decide +kernel
theorem dX0_leftOf_35 : decode cX0_leftOf 35 = .ok (.ifCond .ne 11, 3) := by decide +kernel
theorem dX0_leftOf_38 : decode cX0_leftOf 38 = .ok (.aload_n 0, 1) := by decide +kernel
theorem dX0_leftOf_39 : decode cX0_leftOf 39 = .ok (.getfield 9, 3) := by decide +kernel
theorem dX0_leftOf_42 : decode cX0_leftOf 42 = .ok (.iload 4, 2) := by decide +kernel
theorem dX0_leftOf_44 : decode cX0_leftOf 44 = .ok (.iaload, 1) := by decide +kernel
theorem dX0_leftOf_45 : decode cX0_leftOf 45 = .ok (.istore_n 3, 1) := by decide +kernel
theorem dX0_leftOf_46 : decode cX0_leftOf 46 = .ok (.iinc 4 1, 3) := by decide +kernel
theorem dX0_leftOf_49 : decode cX0_leftOf 49 = .ok (.goto (-39), 3) := by decide +kernel
theorem dX0_leftOf_52 : decode cX0_leftOf 52 = .ok (.iload_n 3, 1) := by decide +kernel
theorem dX0_leftOf_53 : decode cX0_leftOf 53 = .ok (.ireturn, 1) := by decide +kernel
set_option maxRecDepth 20000 in
theorem ggX0_canBeLeft_X0_beatenBy : GoodIn wsX0_canBeLeft wsX0_beatenBy := goodIn_r _ [5, 6, 7, 4, 8, 9, 10, 11, 12, 13, 14, 15, 16, 17, 18, 19, 20, 21, 22, 23, 24, 25, 26, 27, 32, 33, 34, 35, 36, 37, 38, 39, 40, 41, 42, 43] (by decide +kernel) (by decide +kernel)
set_option maxRecDepth 20000 in
theorem gX0_canBeLeft_X0_beatenBy : GoodIn wsX0_canBeLeft (va_wsS RX0 42 yX0_beatenBy wsX0_beatenBy) := goodIn_app (goodIn_of _ (by decide +kernel)) ggX0_canBeLeft_X0_beatenBy
set_option maxRecDepth 20000 in
theorem ggX0_canBeLeft_X8_withBit : GoodIn wsX0_canBeLeft wsX8_withBit := goodIn_r _ [27] (by decide +kernel) (by decide +kernel)
set_option maxRecDepth 20000 in
theorem gX0_canBeLeft_X8_withBit_n28 : GoodIn wsX0_canBeLeft (wsX8_withBit) := ggX0_canBeLeft_X8_withBit
set_option maxRecDepth 20000 in
theorem ggX0_canBeLeft_X8_hasBit : GoodIn wsX0_canBeLeft wsX8_hasBit := goodIn_r _ [29] (by decide +kernel) (by decide +kernel)
set_option maxRecDepth 20000 in
theorem gX0_canBeLeft_X8_hasBit_n46 : GoodIn wsX0_canBeLeft (wsX8_hasBit) := ggX0_canBeLeft_X8_hasBit
theorem dX0_canBeLeft_0 : decode cX0_canBeLeft 0 = .ok (.iconst 0, 1) := by decide +kernel
theorem dX0_canBeLeft_1 : decode cX0_canBeLeft 1 = .ok (.istore_n 3, 1) := by decide +kernel
theorem dX0_canBeLeft_2 : decode cX0_canBeLeft 2 = .ok (.iload_n 3, 1) := by decide +kernel
theorem dX0_canBeLeft_3 : decode cX0_canBeLeft 3 = .ok (.bipush 8, 2) := by decide +kernel
theorem dX0_canBeLeft_5 : decode cX0_canBeLeft 5 = .ok (.if_icmp .ge 20, 3) := by decide +kernel
theorem dX0_canBeLeft_8 : decode cX0_canBeLeft 8 = .ok (.aload_n 0, 1) := by decide +kernel
theorem dX0_canBeLeft_9 : decode cX0_canBeLeft 9 = .ok (.getfield 15, 3) := by decide +kernel
theorem dX0_canBeLeft_12 : decode cX0_canBeLeft 12 = .ok (.iload_n 3, 1) := by decide +kernel
theorem dX0_canBeLeft_13 : decode cX0_canBeLeft 13 = .ok (.aload_n 1, 1) := by decide +kernel
theorem dX0_canBeLeft_14 : decode cX0_canBeLeft 14 = .ok (.iload_n 3, 1) := by decide +kernel
theorem dX0_canBeLeft_15 : decode cX0_canBeLeft 15 = .ok (.invokestatic 42, 3) := by decide +kernel
theorem dX0_canBeLeft_18 : decode cX0_canBeLeft 18 = .ok (.iastore, 1) := by decide +kernel
theorem dX0_canBeLeft_19 : decode cX0_canBeLeft 19 = .ok (.iinc 3 1, 3) := by decide +kernel
theorem dX0_canBeLeft_22 : decode cX0_canBeLeft 22 = .ok (.goto (-20), 3) := by decide +kernel
theorem dX0_canBeLeft_25 : decode cX0_canBeLeft 25 = .ok (.iconst 0, 1) := by decide +kernel
theorem dX0_canBeLeft_26 : decode cX0_canBeLeft 26 = .ok (.iload_n 2, 1) := by decide +kernel
theorem dX0_canBeLeft_27 : decode cX0_canBeLeft 27 = .ok (.iconst 1, 1) := by decide +kernel
theorem dX0_canBeLeft_28 : decode cX0_canBeLeft 28 = .ok (.invokestatic 28, 3) := by decide +kernel
theorem dX0_canBeLeft_31 : decode cX0_canBeLeft 31 = .ok (.istore_n 3, 1) := by decide +kernel
theorem dX0_canBeLeft_32 : decode cX0_canBeLeft 32 = .ok (.iconst 0, 1) := by decide +kernel
theorem dX0_canBeLeft_33 : decode cX0_canBeLeft 33 = .ok (.istore 4, 2) := by decide +kernel
theorem dX0_canBeLeft_35 : decode cX0_canBeLeft 35 = .ok (.iload 4, 2) := by decide +kernel
theorem dX0_canBeLeft_37 : decode cX0_canBeLeft 37 = .ok (.bipush 8, 2) := by decide +kernel
theorem dX0_canBeLeft_39 : decode cX0_canBeLeft 39 = .ok (.if_icmp .ge 48, 3) := by decide +kernel
theorem dX0_canBeLeft_42 : decode cX0_canBeLeft 42 = .ok (.iconst 0, 1) := by decide +kernel
theorem dX0_canBeLeft_43 : decode cX0_canBeLeft 43 = .ok (.istore 5, 2) := by decide +kernel
theorem dX0_canBeLeft_45 : decode cX0_canBeLeft 45 = .ok (.iload 5, 2) := by decide +kernel
theorem dX0_canBeLeft_47 : decode cX0_canBeLeft 47 = .ok (.bipush 8, 2) := by decide +kernel
theorem dX0_canBeLeft_49 : decode cX0_canBeLeft 49 = .ok (.if_icmp .ge 32, 3) := by decide +kernel
theorem dX0_canBeLeft_52 : decode cX0_canBeLeft 52 = .ok (.iload_n 3, 1) := by decide +kernel
theorem dX0_canBeLeft_53 : decode cX0_canBeLeft 53 = .ok (.iload_n 3, 1) := by decide +kernel
theorem dX0_canBeLeft_54 : decode cX0_canBeLeft 54 = .ok (.iload 5, 2) := by decide +kernel
theorem dX0_canBeLeft_56 : decode cX0_canBeLeft 56 = .ok (.invokestatic 46, 3) := by decide +kernel
theorem dX0_canBeLeft_59 : decode cX0_canBeLeft 59 = .ok (.ifCond .eq 13, 3) := by decide +kernel
theorem dX0_canBeLeft_62 : decode cX0_canBeLeft 62 = .ok (.aload_n 0, 1) := by decide +kernel
theorem dX0_canBeLeft_63 : decode cX0_canBeLeft 63 = .ok (.getfield 15, 3) := by decide +kernel
theorem dX0_canBeLeft_66 : decode cX0_canBeLeft 66 = .ok (.iload 5, 2) := by decide +kernel
theorem dX0_canBeLeft_68 : decode cX0_canBeLeft 68 = .ok (.iaload, 1) := by decide +kernel
theorem dX0_canBeLeft_69 : decode cX0_canBeLeft 69 = .ok (.goto 4, 3) := by decide +kernel
theorem dX0_canBeLeft_72 : decode cX0_canBeLeft 72 = .ok (.iconst 0, 1) := by decide +kernel
theorem dX0_canBeLeft_73 : decode cX0_canBeLeft 73 = .ok (.ior, 1) := by decide +kernel
theorem dX0_canBeLeft_74 : decode cX0_canBeLeft 74 = .ok (.istore_n 3, 1) := by decide +kernel
theorem dX0_canBeLeft_75 : decode cX0_canBeLeft 75 = .ok (.iinc 5 1, 3) := by decide +kernel
theorem dX0_canBeLeft_78 : decode cX0_canBeLeft 78 = .ok (.goto (-33), 3) := by decide +kernel
theorem dX0_canBeLeft_81 : decode cX0_canBeLeft 81 = .ok (.iinc 4 1, 3) := by decide +kernel
theorem dX0_canBeLeft_84 : decode cX0_canBeLeft 84 = .ok (.goto (-49), 3) := by decide +kernel
theorem dX0_canBeLeft_87 : decode cX0_canBeLeft 87 = .ok (.iload_n 3, 1) := by decide +kernel
theorem dX0_canBeLeft_88 : decode cX0_canBeLeft 88 = .ok (.sipush 255, 3) := by decide +kernel
theorem dX0_canBeLeft_91 : decode cX0_canBeLeft 91 = .ok (.if_icmp .ne 7, 3) := by decide +kernel
theorem dX0_canBeLeft_94 : decode cX0_canBeLeft 94 = .ok (.iconst 1, 1) := by decide +kernel
theorem dX0_canBeLeft_95 : decode cX0_canBeLeft 95 = .ok (.goto 4, 3) := by decide +kernel
theorem dX0_canBeLeft_98 : decode cX0_canBeLeft 98 = .ok (.iconst 0, 1) := by decide +kernel
theorem dX0_canBeLeft_99 : decode cX0_canBeLeft 99 = .ok (.ireturn, 1) := by decide +kernel
set_option maxRecDepth 20000 in
theorem ggX0_beatenBy_X0_beats : GoodIn wsX0_beatenBy wsX0_beats := goodIn_r _ [4, 5, 6, 7, 8, 9, 10, 11, 12, 13, 14, 15, 16, 17, 18, 19, 20, 21, 24, 25, 26, 27, 28, 29, 30, 31, 32, 33, 34, 35] (by decide +kernel) (by decide +kernel)
set_option maxRecDepth 20000 in
theorem gX0_beatenBy_X0_beats : GoodIn wsX0_beatenBy (va_wsS RX0 38 yX0_beats wsX0_beats) := goodIn_app (goodIn_of _ (by decide +kernel)) ggX0_beatenBy_X0_beats
set_option maxRecDepth 20000 in
theorem ggX0_beatenBy_X8_withBit : GoodIn wsX0_beatenBy wsX8_withBit := goodIn_r _ [23] (by decide +kernel) (by decide +kernel)
set_option maxRecDepth 20000 in
theorem gX0_beatenBy_X8_withBit_n28 : GoodIn wsX0_beatenBy (wsX8_withBit) := ggX0_beatenBy_X8_withBit
theorem dX0_beatenBy_0 : decode cX0_beatenBy 0 = .ok (.iconst 0, 1) := by decide +kernel
theorem dX0_beatenBy_1 : decode cX0_beatenBy 1 = .ok (.istore_n 2, 1) := by decide +kernel
theorem dX0_beatenBy_2 : decode cX0_beatenBy 2 = .ok (.iconst 0, 1) := by decide +kernel
theorem dX0_beatenBy_3 : decode cX0_beatenBy 3 = .ok (.istore_n 3, 1) := by decide +kernel
theorem dX0_beatenBy_4 : decode cX0_beatenBy 4 = .ok (.iload_n 3, 1) := by decide +kernel
theorem dX0_beatenBy_5 : decode cX0_beatenBy 5 = .ok (.bipush 8, 2) := by decide +kernel
theorem dX0_beatenBy_7 : decode cX0_beatenBy 7 = .ok (.if_icmp .ge 34, 3) := by decide +kernel
theorem dX0_beatenBy_10 : decode cX0_beatenBy 10 = .ok (.iload_n 2, 1) := by decide +kernel
theorem dX0_beatenBy_11 : decode cX0_beatenBy 11 = .ok (.iload_n 3, 1) := by decide +kernel
theorem dX0_beatenBy_12 : decode cX0_beatenBy 12 = .ok (.iload_n 3, 1) := by decide +kernel
theorem dX0_beatenBy_13 : decode cX0_beatenBy 13 = .ok (.iload_n 1, 1) := by decide +kernel
theorem dX0_beatenBy_14 : decode cX0_beatenBy 14 = .ok (.if_icmp .eq 16, 3) := by decide +kernel
theorem dX0_beatenBy_17 : decode cX0_beatenBy 17 = .ok (.aload_n 0, 1) := by decide +kernel
theorem dX0_beatenBy_18 : decode cX0_beatenBy 18 = .ok (.iload_n 1, 1) := by decide +kernel
theorem dX0_beatenBy_19 : decode cX0_beatenBy 19 = .ok (.iload_n 3, 1) := by decide +kernel
theorem dX0_beatenBy_20 : decode cX0_beatenBy 20 = .ok (.invokestatic 38, 3) := by decide +kernel
theorem dX0_beatenBy_23 : decode cX0_beatenBy 23 = .ok (.ifCond .eq 7, 3) := by decide +kernel
theorem dX0_beatenBy_26 : decode cX0_beatenBy 26 = .ok (.iconst 1, 1) := by decide +kernel
theorem dX0_beatenBy_27 : decode cX0_beatenBy 27 = .ok (.goto 4, 3) := by decide +kernel
theorem dX0_beatenBy_30 : decode cX0_beatenBy 30 = .ok (.iconst 0, 1) := by decide +kernel
theorem dX0_beatenBy_31 : decode cX0_beatenBy 31 = .ok (.invokestatic 28, 3) := by decide +kernel
theorem dX0_beatenBy_34 : decode cX0_beatenBy 34 = .ok (.istore_n 2, 1) := by decide +kernel
theorem dX0_beatenBy_35 : decode cX0_beatenBy 35 = .ok (.iinc 3 1, 3) := by decide +kernel
theorem dX0_beatenBy_38 : decode cX0_beatenBy 38 = .ok (.goto (-34), 3) := by decide +kernel
theorem dX0_beatenBy_41 : decode cX0_beatenBy 41 = .ok (.iload_n 2, 1) := by decide +kernel
theorem dX0_beatenBy_42 : decode cX0_beatenBy 42 = .ok (.ireturn, 1) := by decide +kernel
set_option maxRecDepth 20000 in
theorem ggX0_beats_X7_isThere : GoodIn wsX0_beats wsX7_isThere := goodIn_r _ [5, 6, 18, 19, 20, 21, 22, 23, 24, 25, 26, 27, 28, 29] (by decide +kernel) (by decide +kernel)
set_option maxRecDepth 20000 in
theorem gX0_beats_X7_isThere : GoodIn wsX0_beats (wsV RX0 50 RX7 yX7_isThere wsX7_isThere) := goodIn_app (goodIn_of _ (by decide +kernel)) ggX0_beats_X7_isThere
set_option maxRecDepth 20000 in
theorem ggX0_beats_X8_apart : GoodIn wsX0_beats wsX8_apart := goodIn_r _ [9, 10, 11, 12, 13] (by decide +kernel) (by decide +kernel)
set_option maxRecDepth 20000 in
theorem gX0_beats_X8_apart_n58 : GoodIn wsX0_beats (wsX8_apart) := ggX0_beats_X8_apart
set_option maxRecDepth 20000 in
theorem ggX0_beats_J6_compare_7cf53 : GoodIn wsX0_beats wsJ6_compare_7cf53 := goodIn_r _ [17] (by decide +kernel) (by decide +kernel)
set_option maxRecDepth 20000 in
theorem gX0_beats_J6_compare_7cf53 : GoodIn wsX0_beats (va_wsS RX0 61 yJ6_compare_7cf53 wsJ6_compare_7cf53) := goodIn_app (goodIn_of _ (by decide +kernel)) ggX0_beats_J6_compare_7cf53
theorem dX0_beats_0 : decode cX0_beats 0 = .ok (.iconst 0, 1) := by decide +kernel
theorem dX0_beats_1 : decode cX0_beats 1 = .ok (.istore_n 3, 1) := by decide +kernel
theorem dX0_beats_2 : decode cX0_beats 2 = .ok (.iconst 0, 1) := by decide +kernel
theorem dX0_beats_3 : decode cX0_beats 3 = .ok (.istore 4, 2) := by decide +kernel
theorem dX0_beats_5 : decode cX0_beats 5 = .ok (.iload 4, 2) := by decide +kernel
theorem dX0_beats_7 : decode cX0_beats 7 = .ok (.bipush 7, 2) := by decide +kernel
theorem dX0_beats_9 : decode cX0_beats 9 = .ok (.if_icmp .ge 45, 3) := by decide +kernel
theorem dX0_beats_12 : decode cX0_beats 12 = .ok (.aload_n 0, 1) := by decide +kernel
theorem dX0_beats_13 : decode cX0_beats 13 = .ok (.iload 4, 2) := by decide +kernel
theorem dX0_beats_15 : decode cX0_beats 15 = .ok (.invokevirtual 50, 3) := by decide +kernel
theorem dX0_beats_18 : decode cX0_beats 18 = .ok (.ifCond .eq 30, 3) := by decide +kernel
theorem dX0_beats_21 : decode cX0_beats 21 = .ok (.aload_n 0, 1) := by decide +kernel
theorem dX0_beats_22 : decode cX0_beats 22 = .ok (.getfield 55, 3) := by decide +kernel
theorem dX0_beats_25 : decode cX0_beats 25 = .ok (.iload 4, 2) := by decide +kernel
theorem dX0_beats_27 : decode cX0_beats 27 = .ok (.iaload, 1) := by decide +kernel
theorem dX0_beats_28 : decode cX0_beats 28 = .ok (.istore 5, 2) := by decide +kernel
theorem dX0_beats_30 : decode cX0_beats 30 = .ok (.iload_n 3, 1) := by decide +kernel
theorem dX0_beats_31 : decode cX0_beats 31 = .ok (.iload 5, 2) := by decide +kernel
theorem dX0_beats_33 : decode cX0_beats 33 = .ok (.iload_n 2, 1) := by decide +kernel
theorem dX0_beats_34 : decode cX0_beats 34 = .ok (.invokestatic 58, 3) := by decide +kernel
theorem dX0_beats_37 : decode cX0_beats 37 = .ok (.iload 5, 2) := by decide +kernel
theorem dX0_beats_39 : decode cX0_beats 39 = .ok (.iload_n 1, 1) := by decide +kernel
theorem dX0_beats_40 : decode cX0_beats 40 = .ok (.invokestatic 58, 3) := by decide +kernel
theorem dX0_beats_43 : decode cX0_beats 43 = .ok (.invokestatic 61, 3) := by decide +kernel
theorem dX0_beats_46 : decode cX0_beats 46 = .ok (.iadd, 1) := by decide +kernel
theorem dX0_beats_47 : decode cX0_beats 47 = .ok (.istore_n 3, 1) := by decide +kernel
theorem dX0_beats_48 : decode cX0_beats 48 = .ok (.iinc 4 1, 3) := by decide +kernel
theorem dX0_beats_51 : decode cX0_beats 51 = .ok (.goto (-46), 3) := by decide +kernel
theorem dX0_beats_54 : decode cX0_beats 54 = .ok (.iload_n 3, 1) := by decide +kernel
theorem dX0_beats_55 : decode cX0_beats 55 = .ok (.ifCond .gt 12, 3) := by decide +kernel
theorem dX0_beats_58 : decode cX0_beats 58 = .ok (.iload_n 3, 1) := by decide +kernel
theorem dX0_beats_59 : decode cX0_beats 59 = .ok (.ifCond .ne 12, 3) := by decide +kernel
theorem dX0_beats_62 : decode cX0_beats 62 = .ok (.iload_n 1, 1) := by decide +kernel
theorem dX0_beats_63 : decode cX0_beats 63 = .ok (.iload_n 2, 1) := by decide +kernel
theorem dX0_beats_64 : decode cX0_beats 64 = .ok (.if_icmp .ge 7, 3) := by decide +kernel
theorem dX0_beats_67 : decode cX0_beats 67 = .ok (.iconst 1, 1) := by decide +kernel
theorem dX0_beats_68 : decode cX0_beats 68 = .ok (.goto 4, 3) := by decide +kernel
theorem dX0_beats_71 : decode cX0_beats 71 = .ok (.iconst 0, 1) := by decide +kernel
theorem dX0_beats_72 : decode cX0_beats 72 = .ok (.ireturn, 1) := by decide +kernel
theorem dX1_init_0 : decode cX1_init 0 = .ok (.aload_n 0, 1) := by decide +kernel
theorem dX1_init_1 : decode cX1_init 1 = .ok (.invokespecial 3, 3) := by decide +kernel
theorem dX1_init_4 : decode cX1_init 4 = .ok (.aload_n 0, 1) := by decide +kernel
theorem dX1_init_5 : decode cX1_init 5 = .ok (.bipush 9, 2) := by decide +kernel
theorem dX1_init_7 : decode cX1_init 7 = .ok (.newarray .long, 2) := by decide +kernel
theorem dX1_init_9 : decode cX1_init 9 = .ok (.putfield 9, 3) := by decide +kernel
theorem dX1_init_12 : decode cX1_init 12 = .ok (.return_, 1) := by decide +kernel
theorem dX1_countHours_0 : decode cX1_countHours 0 = .ok (.iconst 0, 1) := by decide +kernel
theorem dX1_countHours_1 : decode cX1_countHours 1 = .ok (.iload_n 1, 1) := by decide +kernel
theorem dX1_countHours_2 : decode cX1_countHours 2 = .ok (.bipush 8, 2) := by decide +kernel
theorem dX1_countHours_4 : decode cX1_countHours 4 = .ok (.invokestatic 15, 3) := by decide +kernel
theorem dX1_countHours_7 : decode cX1_countHours 7 = .ok (.invokestatic 21, 3) := by decide +kernel
theorem dX1_countHours_10 : decode cX1_countHours 10 = .ok (.istore_n 3, 1) := by decide +kernel
theorem dX1_countHours_11 : decode cX1_countHours 11 = .ok (.iconst 0, 1) := by decide +kernel
theorem dX1_countHours_12 : decode cX1_countHours 12 = .ok (.istore 4, 2) := by decide +kernel
theorem dX1_countHours_14 : decode cX1_countHours 14 = .ok (.iload 4, 2) := by decide +kernel
theorem dX1_countHours_16 : decode cX1_countHours 16 = .ok (.bipush 8, 2) := by decide +kernel
theorem dX1_countHours_18 : decode cX1_countHours 18 = .ok (.if_icmp .gt 17, 3) := by decide +kernel
theorem dX1_countHours_21 : decode cX1_countHours 21 = .ok (.aload_n 0, 1) := by decide +kernel
theorem dX1_countHours_22 : decode cX1_countHours 22 = .ok (.getfield 9, 3) := by decide +kernel
theorem dX1_countHours_25 : decode cX1_countHours 25 = .ok (.iload 4, 2) := by decide +kernel
theorem dX1_countHours_27 : decode cX1_countHours 27 = .ok (.lconst 0, 1) := by decide +kernel
theorem dX1_countHours_28 : decode cX1_countHours 28 = .ok (.lastore, 1) := by decide +kernel
theorem dX1_countHours_29 : decode cX1_countHours 29 = .ok (.iinc 4 1, 3) := by decide +kernel
theorem dX1_countHours_32 : decode cX1_countHours 32 = .ok (.goto (-18), 3) := by decide +kernel
theorem dX1_countHours_35 : decode cX1_countHours 35 = .ok (.aload_n 0, 1) := by decide +kernel
theorem dX1_countHours_36 : decode cX1_countHours 36 = .ok (.getfield 9, 3) := by decide +kernel
theorem dX1_countHours_39 : decode cX1_countHours 39 = .ok (.iconst 0, 1) := by decide +kernel
theorem dX1_countHours_40 : decode cX1_countHours 40 = .ok (.lconst 1, 1) := by decide +kernel
theorem dX1_countHours_41 : decode cX1_countHours 41 = .ok (.lastore, 1) := by decide +kernel
theorem dX1_countHours_42 : decode cX1_countHours 42 = .ok (.aload_n 0, 1) := by decide +kernel
theorem dX1_countHours_43 : decode cX1_countHours 43 = .ok (.lconst 1, 1) := by decide +kernel
theorem dX1_countHours_44 : decode cX1_countHours 44 = .ok (.putfield 24, 3) := by decide +kernel
theorem dX1_countHours_47 : decode cX1_countHours 47 = .ok (.iconst 0, 1) := by decide +kernel
theorem dX1_countHours_48 : decode cX1_countHours 48 = .ok (.istore 4, 2) := by decide +kernel
theorem dX1_countHours_50 : decode cX1_countHours 50 = .ok (.iload 4, 2) := by decide +kernel
theorem dX1_countHours_52 : decode cX1_countHours 52 = .ok (.iload_n 2, 1) := by decide +kernel
theorem dX1_countHours_53 : decode cX1_countHours 53 = .ok (.if_icmp .ge 77, 3) := by decide +kernel
theorem dX1_countHours_56 : decode cX1_countHours 56 = .ok (.iload_n 3, 1) := by decide +kernel
theorem dX1_countHours_57 : decode cX1_countHours 57 = .ok (.istore 5, 2) := by decide +kernel
theorem dX1_countHours_59 : decode cX1_countHours 59 = .ok (.iload 5, 2) := by decide +kernel
theorem dX1_countHours_61 : decode cX1_countHours 61 = .ok (.ifCond .le 45, 3) := by decide +kernel
theorem dX1_countHours_64 : decode cX1_countHours 64 = .ok (.aload_n 0, 1) := by decide +kernel
theorem dX1_countHours_65 : decode cX1_countHours 65 = .ok (.getfield 9, 3) := by decide +kernel
theorem dX1_countHours_68 : decode cX1_countHours 68 = .ok (.iload 5, 2) := by decide +kernel
theorem dX1_countHours_70 : decode cX1_countHours 70 = .ok (.iload 5, 2) := by decide +kernel
theorem dX1_countHours_72 : decode cX1_countHours 72 = .ok (.i2l, 1) := by decide +kernel
theorem dX1_countHours_73 : decode cX1_countHours 73 = .ok (.aload_n 0, 1) := by decide +kernel
theorem dX1_countHours_74 : decode cX1_countHours 74 = .ok (.getfield 9, 3) := by decide +kernel
theorem dX1_countHours_77 : decode cX1_countHours 77 = .ok (.iload 5, 2) := by decide +kernel
theorem dX1_countHours_79 : decode cX1_countHours 79 = .ok (.laload, 1) := by decide +kernel
theorem dX1_countHours_80 : decode cX1_countHours 80 = .ok (.lmul, 1) := by decide +kernel
theorem dX1_countHours_81 : decode cX1_countHours 81 = .ok (.iload_n 3, 1) := by decide +kernel
theorem dX1_countHours_82 : decode cX1_countHours 82 = .ok (.iload 5, 2) := by decide +kernel
theorem dX1_countHours_84 : decode cX1_countHours 84 = .ok (.isub, 1) := by decide +kernel
theorem dX1_countHours_85 : decode cX1_countHours 85 = .ok (.iconst 1, 1) := by decide +kernel
theorem dX1_countHours_86 : decode cX1_countHours 86 = .ok (.iadd, 1) := by decide +kernel
theorem dX1_countHours_87 : decode cX1_countHours 87 = .ok (.i2l, 1) := by decide +kernel
theorem dX1_countHours_88 : decode cX1_countHours 88 = .ok (.aload_n 0, 1) := by decide +kernel
theorem dX1_countHours_89 : decode cX1_countHours 89 = .ok (.getfield 9, 3) := by decide +kernel
theorem dX1_countHours_92 : decode cX1_countHours 92 = .ok (.iload 5, 2) := by decide +kernel
theorem dX1_countHours_94 : decode cX1_countHours 94 = .ok (.iconst 1, 1) := by decide +kernel
theorem dX1_countHours_95 : decode cX1_countHours 95 = .ok (.isub, 1) := by decide +kernel
theorem dX1_countHours_96 : decode cX1_countHours 96 = .ok (.laload, 1) := by decide +kernel
theorem dX1_countHours_97 : decode cX1_countHours 97 = .ok (.lmul, 1) := by decide +kernel
theorem dX1_countHours_98 : decode cX1_countHours 98 = .ok (.ladd, 1) := by decide +kernel
theorem dX1_countHours_99 : decode cX1_countHours 99 = .ok (.lastore, 1) := by decide +kernel
theorem dX1_countHours_100 : decode cX1_countHours 100 = .ok (.iinc 5 (-1), 3) := by decide +kernel
theorem dX1_countHours_103 : decode cX1_countHours 103 = .ok (.goto (-44), 3) := by decide +kernel
theorem dX1_countHours_106 : decode cX1_countHours 106 = .ok (.aload_n 0, 1) := by decide +kernel
theorem dX1_countHours_107 : decode cX1_countHours 107 = .ok (.getfield 9, 3) := by decide +kernel
theorem dX1_countHours_110 : decode cX1_countHours 110 = .ok (.iconst 0, 1) := by decide +kernel
theorem dX1_countHours_111 : decode cX1_countHours 111 = .ok (.lconst 0, 1) := by decide +kernel
theorem dX1_countHours_112 : decode cX1_countHours 112 = .ok (.lastore, 1) := by decide +kernel
theorem dX1_countHours_113 : decode cX1_countHours 113 = .ok (.aload_n 0, 1) := by decide +kernel
theorem dX1_countHours_114 : decode cX1_countHours 114 = .ok (.dup, 1) := by decide +kernel
theorem dX1_countHours_115 : decode cX1_countHours 115 = .ok (.getfield 24, 3) := by decide +kernel
theorem dX1_countHours_118 : decode cX1_countHours 118 = .ok (.iload_n 3, 1) := by decide +kernel
theorem dX1_countHours_119 : decode cX1_countHours 119 = .ok (.i2l, 1) := by decide +kernel
theorem dX1_countHours_120 : decode cX1_countHours 120 = .ok (.lmul, 1) := by decide +kernel
theorem dX1_countHours_121 : decode cX1_countHours 121 = .ok (.putfield 24, 3) := by decide +kernel
theorem dX1_countHours_124 : decode cX1_countHours 124 = .ok (.iinc 4 1, 3) := by decide +kernel
theorem dX1_countHours_127 : decode cX1_countHours 127 = .ok (.goto (-77), 3) := by decide +kernel
theorem dX1_countHours_130 : decode cX1_countHours 130 = .ok (.aload_n 0, 1) := by decide +kernel
theorem dX1_countHours_131 : decode cX1_countHours 131 = .ok (.aload_n 0, 1) := by decide +kernel
theorem dX1_countHours_132 : decode cX1_countHours 132 = .ok (.getfield 9, 3) := by decide +kernel
theorem dX1_countHours_135 : decode cX1_countHours 135 = .ok (.iload_n 3, 1) := by decide +kernel
theorem dX1_countHours_136 : decode cX1_countHours 136 = .ok (.laload, 1) := by decide +kernel
theorem dX1_countHours_137 : decode cX1_countHours 137 = .ok (.putfield 28, 3) := by decide +kernel
theorem dX1_countHours_140 : decode cX1_countHours 140 = .ok (.return_, 1) := by decide +kernel
theorem dX1_countMean_0 : decode cX1_countMean 0 = .ok (.aload_n 0, 1) := by decide +kernel
theorem dX1_countMean_1 : decode cX1_countMean 1 = .ok (.lconst 0, 1) := by decide +kernel
theorem dX1_countMean_2 : decode cX1_countMean 2 = .ok (.putfield 28, 3) := by decide +kernel
theorem dX1_countMean_5 : decode cX1_countMean 5 = .ok (.aload_n 0, 1) := by decide +kernel
theorem dX1_countMean_6 : decode cX1_countMean 6 = .ok (.ldc2_w 31, 3) := by decide +kernel
theorem dX1_countMean_9 : decode cX1_countMean 9 = .ok (.putfield 24, 3) := by decide +kernel
theorem dX1_countMean_12 : decode cX1_countMean 12 = .ok (.iconst 1, 1) := by decide +kernel
theorem dX1_countMean_13 : decode cX1_countMean 13 = .ok (.istore_n 2, 1) := by decide +kernel
theorem dX1_countMean_14 : decode cX1_countMean 14 = .ok (.iload_n 2, 1) := by decide +kernel
theorem dX1_countMean_15 : decode cX1_countMean 15 = .ok (.iload_n 1, 1) := by decide +kernel
theorem dX1_countMean_16 : decode cX1_countMean 16 = .ok (.if_icmp .gt 26, 3) := by decide +kernel
theorem dX1_countMean_19 : decode cX1_countMean 19 = .ok (.aload_n 0, 1) := by decide +kernel
theorem dX1_countMean_20 : decode cX1_countMean 20 = .ok (.dup, 1) := by decide +kernel
theorem dX1_countMean_21 : decode cX1_countMean 21 = .ok (.getfield 28, 3) := by decide +kernel
theorem dX1_countMean_24 : decode cX1_countMean 24 = .ok (.iload_n 1, 1) := by decide +kernel
theorem dX1_countMean_25 : decode cX1_countMean 25 = .ok (.sipush 840, 3) := by decide +kernel
theorem dX1_countMean_28 : decode cX1_countMean 28 = .ok (.iload_n 2, 1) := by decide +kernel
theorem dX1_countMean_29 : decode cX1_countMean 29 = .ok (.idiv, 1) := by decide +kernel
theorem dX1_countMean_30 : decode cX1_countMean 30 = .ok (.imul, 1) := by decide +kernel
theorem dX1_countMean_31 : decode cX1_countMean 31 = .ok (.i2l, 1) := by decide +kernel
theorem dX1_countMean_32 : decode cX1_countMean 32 = .ok (.ladd, 1) := by decide +kernel
theorem dX1_countMean_33 : decode cX1_countMean 33 = .ok (.putfield 28, 3) := by decide +kernel
theorem dX1_countMean_36 : decode cX1_countMean 36 = .ok (.iinc 2 1, 3) := by decide +kernel
theorem dX1_countMean_39 : decode cX1_countMean 39 = .ok (.goto (-25), 3) := by decide +kernel
theorem dX1_countMean_42 : decode cX1_countMean 42 = .ok (.return_, 1) := by decide +kernel
set_option maxRecDepth 20000 in
theorem ggX1_inLowestTerms_X1_commonDivisor : GoodIn wsX1_inLowestTerms wsX1_commonDivisor := goodIn_r _ [7] (by decide +kernel) (by decide +kernel)
set_option maxRecDepth 20000 in
theorem gX1_inLowestTerms_X1_commonDivisor : GoodIn wsX1_inLowestTerms (va_wsS RX1 33 yX1_commonDivisor wsX1_commonDivisor) := goodIn_app (goodIn_of _ (by decide +kernel)) ggX1_inLowestTerms_X1_commonDivisor
theorem dX1_inLowestTerms_0 : decode cX1_inLowestTerms 0 = .ok (.aload_n 0, 1) := by decide +kernel
theorem dX1_inLowestTerms_1 : decode cX1_inLowestTerms 1 = .ok (.getfield 28, 3) := by decide +kernel
theorem dX1_inLowestTerms_4 : decode cX1_inLowestTerms 4 = .ok (.aload_n 0, 1) := by decide +kernel
theorem dX1_inLowestTerms_5 : decode cX1_inLowestTerms 5 = .ok (.getfield 24, 3) := by decide +kernel
theorem dX1_inLowestTerms_8 : decode cX1_inLowestTerms 8 = .ok (.invokestatic 33, 3) := by decide +kernel
theorem dX1_inLowestTerms_11 : decode cX1_inLowestTerms 11 = .ok (.lstore_n 2, 1) := by decide +kernel
theorem dX1_inLowestTerms_12 : decode cX1_inLowestTerms 12 = .ok (.lload_n 2, 1) := by decide +kernel
theorem dX1_inLowestTerms_13 : decode cX1_inLowestTerms 13 = .ok (.lconst 0, 1) := by decide +kernel
theorem dX1_inLowestTerms_14 : decode cX1_inLowestTerms 14 = .ok (.lcmp, 1) := by decide +kernel
theorem dX1_inLowestTerms_15 : decode cX1_inLowestTerms 15 = .ok (.ifCond .ne 7, 3) := by decide +kernel
theorem dX1_inLowestTerms_18 : decode cX1_inLowestTerms 18 = .ok (.ldc2_w 37, 3) := by decide +kernel
theorem dX1_inLowestTerms_21 : decode cX1_inLowestTerms 21 = .ok (.lreturn, 1) := by decide +kernel
theorem dX1_inLowestTerms_22 : decode cX1_inLowestTerms 22 = .ok (.iload_n 1, 1) := by decide +kernel
theorem dX1_inLowestTerms_23 : decode cX1_inLowestTerms 23 = .ok (.ifCond .ne 12, 3) := by decide +kernel
theorem dX1_inLowestTerms_26 : decode cX1_inLowestTerms 26 = .ok (.aload_n 0, 1) := by decide +kernel
theorem dX1_inLowestTerms_27 : decode cX1_inLowestTerms 27 = .ok (.getfield 28, 3) := by decide +kernel
theorem dX1_inLowestTerms_30 : decode cX1_inLowestTerms 30 = .ok (.lload_n 2, 1) := by decide +kernel
theorem dX1_inLowestTerms_31 : decode cX1_inLowestTerms 31 = .ok (.ldiv, 1) := by decide +kernel
theorem dX1_inLowestTerms_32 : decode cX1_inLowestTerms 32 = .ok (.goto 9, 3) := by decide +kernel
theorem dX1_inLowestTerms_35 : decode cX1_inLowestTerms 35 = .ok (.aload_n 0, 1) := by decide +kernel
theorem dX1_inLowestTerms_36 : decode cX1_inLowestTerms 36 = .ok (.getfield 24, 3) := by decide +kernel
theorem dX1_inLowestTerms_39 : decode cX1_inLowestTerms 39 = .ok (.lload_n 2, 1) := by decide +kernel
theorem dX1_inLowestTerms_40 : decode cX1_inLowestTerms 40 = .ok (.ldiv, 1) := by decide +kernel
theorem dX1_inLowestTerms_41 : decode cX1_inLowestTerms 41 = .ok (.lreturn, 1) := by decide +kernel
theorem dX1_commonDivisor_0 : decode cX1_commonDivisor 0 = .ok (.lload_n 0, 1) := by decide +kernel
theorem dX1_commonDivisor_1 : decode cX1_commonDivisor 1 = .ok (.lstore 4, 2) := by decide +kernel
theorem dX1_commonDivisor_3 : decode cX1_commonDivisor 3 = .ok (.lload_n 2, 1) := by decide +kernel
theorem dX1_commonDivisor_4 : decode cX1_commonDivisor 4 = .ok (.lstore 6, 2) := by decide +kernel
theorem dX1_commonDivisor_6 : decode cX1_commonDivisor 6 = .ok (.iconst 0, 1) := by decide +kernel
theorem dX1_commonDivisor_7 : decode cX1_commonDivisor 7 = .ok (.istore 8, 2) := by decide +kernel
theorem dX1_commonDivisor_9 : decode cX1_commonDivisor 9 = .ok (.iload 8, 2) := by decide +kernel
theorem dX1_commonDivisor_11 : decode cX1_commonDivisor 11 = .ok (.sipush 1000, 3) := by decide +kernel
theorem dX1_commonDivisor_14 : decode cX1_commonDivisor 14 = .ok (.if_icmp .ge 31, 3) := by decide +kernel
theorem dX1_commonDivisor_17 : decode cX1_commonDivisor 17 = .ok (.lload 6, 2) := by decide +kernel
theorem dX1_commonDivisor_19 : decode cX1_commonDivisor 19 = .ok (.lconst 0, 1) := by decide +kernel
theorem dX1_commonDivisor_20 : decode cX1_commonDivisor 20 = .ok (.lcmp, 1) := by decide +kernel
theorem dX1_commonDivisor_21 : decode cX1_commonDivisor 21 = .ok (.ifCond .eq 24, 3) := by decide +kernel
theorem dX1_commonDivisor_24 : decode cX1_commonDivisor 24 = .ok (.lload 4, 2) := by decide +kernel
theorem dX1_commonDivisor_26 : decode cX1_commonDivisor 26 = .ok (.lload 6, 2) := by decide +kernel
theorem dX1_commonDivisor_28 : decode cX1_commonDivisor 28 = .ok (.lrem, 1) := by decide +kernel
theorem dX1_commonDivisor_29 : decode cX1_commonDivisor 29 = .ok (.lstore 9, 2) := by decide +kernel
theorem dX1_commonDivisor_31 : decode cX1_commonDivisor 31 = .ok (.lload 6, 2) := by decide +kernel
theorem dX1_commonDivisor_33 : decode cX1_commonDivisor 33 = .ok (.lstore 4, 2) := by decide +kernel
theorem dX1_commonDivisor_35 : decode cX1_commonDivisor 35 = .ok (.lload 9, 2) := by decide +kernel
theorem dX1_commonDivisor_37 : decode cX1_commonDivisor 37 = .ok (.lstore 6, 2) := by decide +kernel
theorem dX1_commonDivisor_39 : decode cX1_commonDivisor 39 = .ok (.iinc 8 1, 3) := by decide +kernel
theorem dX1_commonDivisor_42 : decode cX1_commonDivisor 42 = .ok (.goto (-33), 3) := by decide +kernel
theorem dX1_commonDivisor_45 : decode cX1_commonDivisor 45 = .ok (.lload 4, 2) := by decide +kernel
theorem dX1_commonDivisor_47 : decode cX1_commonDivisor 47 = .ok (.lreturn, 1) := by decide +kernel
theorem dX2_init_0 : decode cX2_init 0 = .ok (.aload_n 0, 1) := by decide +kernel
theorem dX2_init_1 : decode cX2_init 1 = .ok (.invokespecial 3, 3) := by decide +kernel
theorem dX2_init_4 : decode cX2_init 4 = .ok (.aload_n 0, 1) := by decide +kernel
theorem dX2_init_5 : decode cX2_init 5 = .ok (.bipush 8, 2) := by decide +kernel
theorem dX2_init_7 : decode cX2_init 7 = .ok (.newarray .int, 2) := by decide +kernel
theorem dX2_init_9 : decode cX2_init 9 = .ok (.putfield 9, 3) := by decide +kernel
theorem dX2_init_12 : decode cX2_init 12 = .ok (.return_, 1) := by decide +kernel
set_option maxRecDepth 20000 in
theorem ggX2_count_X2_fits : GoodIn wsX2_count wsX2_fits := goodIn_r _ [4, 5, 6, 3, 7, 8, 9, 10, 11, 12, 13, 14, 15, 16, 17, 18, 19, 20, 21, 22] (by decide +kernel) (by decide +kernel)
set_option maxRecDepth 20000 in
theorem gX2_count_X2_fits : GoodIn wsX2_count (va_wsS RX2 15 yX2_fits wsX2_fits) := goodIn_app (goodIn_of _ (by decide +kernel)) ggX2_count_X2_fits
theorem dX2_count_0 : decode cX2_count 0 = .ok (.iconst 0, 1) := by decide +kernel
theorem dX2_count_1 : decode cX2_count 1 = .ok (.istore_n 1, 1) := by decide +kernel
theorem dX2_count_2 : decode cX2_count 2 = .ok (.iconst 0, 1) := by decide +kernel
theorem dX2_count_3 : decode cX2_count 3 = .ok (.istore_n 2, 1) := by decide +kernel
theorem dX2_count_4 : decode cX2_count 4 = .ok (.iload_n 2, 1) := by decide +kernel
theorem dX2_count_5 : decode cX2_count 5 = .ok (.bipush 32, 2) := by decide +kernel
theorem dX2_count_7 : decode cX2_count 7 = .ok (.if_icmp .ge 25, 3) := by decide +kernel
theorem dX2_count_10 : decode cX2_count 10 = .ok (.iload_n 1, 1) := by decide +kernel
theorem dX2_count_11 : decode cX2_count 11 = .ok (.aload_n 0, 1) := by decide +kernel
theorem dX2_count_12 : decode cX2_count 12 = .ok (.iload_n 2, 1) := by decide +kernel
theorem dX2_count_13 : decode cX2_count 13 = .ok (.invokestatic 15, 3) := by decide +kernel
theorem dX2_count_16 : decode cX2_count 16 = .ok (.ifCond .eq 7, 3) := by decide +kernel
theorem dX2_count_19 : decode cX2_count 19 = .ok (.iconst 1, 1) := by decide +kernel
theorem dX2_count_20 : decode cX2_count 20 = .ok (.goto 4, 3) := by decide +kernel
theorem dX2_count_23 : decode cX2_count 23 = .ok (.iconst 0, 1) := by decide +kernel
theorem dX2_count_24 : decode cX2_count 24 = .ok (.iadd, 1) := by decide +kernel
theorem dX2_count_25 : decode cX2_count 25 = .ok (.istore_n 1, 1) := by decide +kernel
theorem dX2_count_26 : decode cX2_count 26 = .ok (.iinc 2 1, 3) := by decide +kernel
theorem dX2_count_29 : decode cX2_count 29 = .ok (.goto (-25), 3) := by decide +kernel
theorem dX2_count_32 : decode cX2_count 32 = .ok (.iload_n 1, 1) := by decide +kernel
theorem dX2_count_33 : decode cX2_count 33 = .ok (.ireturn, 1) := by decide +kernel
set_option maxRecDepth 20000 in
theorem ggX2_tell_X2_fits : GoodIn wsX2_tell wsX2_fits := goodIn_r _ [4, 5, 6, 3, 7, 8, 9, 10, 11, 12, 13, 14, 15, 16, 17, 18, 19, 20, 21, 22] (by decide +kernel) (by decide +kernel)
set_option maxRecDepth 20000 in
theorem gX2_tell_X2_fits : GoodIn wsX2_tell (va_wsS RX2 15 yX2_fits wsX2_fits) := goodIn_app (goodIn_of _ (by decide +kernel)) ggX2_tell_X2_fits
theorem dX2_tell_0 : decode cX2_tell 0 = .ok (.iconst 0, 1) := by decide +kernel
theorem dX2_tell_1 : decode cX2_tell 1 = .ok (.istore_n 2, 1) := by decide +kernel
theorem dX2_tell_2 : decode cX2_tell 2 = .ok (.iconst 0, 1) := by decide +kernel
theorem dX2_tell_3 : decode cX2_tell 3 = .ok (.istore_n 3, 1) := by decide +kernel
theorem dX2_tell_4 : decode cX2_tell 4 = .ok (.iload_n 3, 1) := by decide +kernel
theorem dX2_tell_5 : decode cX2_tell 5 = .ok (.bipush 32, 2) := by decide +kernel
theorem dX2_tell_7 : decode cX2_tell 7 = .ok (.if_icmp .ge 36, 3) := by decide +kernel
theorem dX2_tell_10 : decode cX2_tell 10 = .ok (.aload_n 0, 1) := by decide +kernel
theorem dX2_tell_11 : decode cX2_tell 11 = .ok (.iload_n 3, 1) := by decide +kernel
theorem dX2_tell_12 : decode cX2_tell 12 = .ok (.invokestatic 15, 3) := by decide +kernel
theorem dX2_tell_15 : decode cX2_tell 15 = .ok (.ifCond .eq 22, 3) := by decide +kernel
theorem dX2_tell_18 : decode cX2_tell 18 = .ok (.iload_n 2, 1) := by decide +kernel
theorem dX2_tell_19 : decode cX2_tell 19 = .ok (.iload_n 1, 1) := by decide +kernel
theorem dX2_tell_20 : decode cX2_tell 20 = .ok (.if_icmp .ne 14, 3) := by decide +kernel
theorem dX2_tell_23 : decode cX2_tell 23 = .ok (.bipush 10, 2) := by decide +kernel
theorem dX2_tell_25 : decode cX2_tell 25 = .ok (.iload_n 3, 1) := by decide +kernel
theorem dX2_tell_26 : decode cX2_tell 26 = .ok (.iconst 4, 1) := by decide +kernel
theorem dX2_tell_27 : decode cX2_tell 27 = .ok (.idiv, 1) := by decide +kernel
theorem dX2_tell_28 : decode cX2_tell 28 = .ok (.imul, 1) := by decide +kernel
theorem dX2_tell_29 : decode cX2_tell 29 = .ok (.iload_n 3, 1) := by decide +kernel
theorem dX2_tell_30 : decode cX2_tell 30 = .ok (.iconst 4, 1) := by decide +kernel
theorem dX2_tell_31 : decode cX2_tell 31 = .ok (.irem, 1) := by decide +kernel
theorem dX2_tell_32 : decode cX2_tell 32 = .ok (.iadd, 1) := by decide +kernel
theorem dX2_tell_33 : decode cX2_tell 33 = .ok (.ireturn, 1) := by decide +kernel
theorem dX2_tell_34 : decode cX2_tell 34 = .ok (.iinc 2 1, 3) := by decide +kernel
theorem dX2_tell_37 : decode cX2_tell 37 = .ok (.iinc 3 1, 3) := by decide +kernel
theorem dX2_tell_40 : decode cX2_tell 40 = .ok (.goto (-36), 3) := by decide +kernel
theorem dX2_tell_43 : decode cX2_tell 43 = .ok (.bipush (-6), 2) := by decide +kernel
theorem dX2_tell_45 : decode cX2_tell 45 = .ok (.ireturn, 1) := by decide +kernel
set_option maxRecDepth 20000 in
theorem ggX2_choose_X2_countAgreeing : GoodIn wsX2_choose wsX2_countAgreeing := goodIn_r _ [12, 3, 13, 14, 11, 15, 16, 17, 18, 19, 20, 21, 22, 23, 24, 25, 26, 27, 28, 29, 30, 31, 32, 33, 34, 35, 36] (by decide +kernel) (by decide +kernel)
set_option maxRecDepth 20000 in
theorem gX2_choose_X2_countAgreeing : GoodIn wsX2_choose (wsV RX2 19 RX2 yX2_countAgreeing wsX2_countAgreeing) := goodIn_app (goodIn_of _ (by decide +kernel)) ggX2_choose_X2_countAgreeing
theorem dX2_choose_0 : decode cX2_choose 0 = .ok (.aload_n 0, 1) := by decide +kernel
theorem dX2_choose_1 : decode cX2_choose 1 = .ok (.aload_n 1, 1) := by decide +kernel
theorem dX2_choose_2 : decode cX2_choose 2 = .ok (.invokevirtual 19, 3) := by decide +kernel
theorem dX2_choose_5 : decode cX2_choose 5 = .ok (.istore_n 2, 1) := by decide +kernel
theorem dX2_choose_6 : decode cX2_choose 6 = .ok (.aload_n 0, 1) := by decide +kernel
theorem dX2_choose_7 : decode cX2_choose 7 = .ok (.bipush (-6), 2) := by decide +kernel
theorem dX2_choose_9 : decode cX2_choose 9 = .ok (.putfield 23, 3) := by decide +kernel
theorem dX2_choose_12 : decode cX2_choose 12 = .ok (.aload_n 0, 1) := by decide +kernel
theorem dX2_choose_13 : decode cX2_choose 13 = .ok (.bipush (-6), 2) := by decide +kernel
theorem dX2_choose_15 : decode cX2_choose 15 = .ok (.putfield 27, 3) := by decide +kernel
theorem dX2_choose_18 : decode cX2_choose 18 = .ok (.iconst 0, 1) := by decide +kernel
theorem dX2_choose_19 : decode cX2_choose 19 = .ok (.istore_n 3, 1) := by decide +kernel
theorem dX2_choose_20 : decode cX2_choose 20 = .ok (.iload_n 3, 1) := by decide +kernel
theorem dX2_choose_21 : decode cX2_choose 21 = .ok (.bipush 8, 2) := by decide +kernel
theorem dX2_choose_23 : decode cX2_choose 23 = .ok (.if_icmp .ge 61, 3) := by decide +kernel
theorem dX2_choose_26 : decode cX2_choose 26 = .ok (.iload_n 2, 1) := by decide +kernel
theorem dX2_choose_27 : decode cX2_choose 27 = .ok (.ifCond .le 57, 3) := by decide +kernel
theorem dX2_choose_30 : decode cX2_choose 30 = .ok (.aload_n 0, 1) := by decide +kernel
theorem dX2_choose_31 : decode cX2_choose 31 = .ok (.getfield 9, 3) := by decide +kernel
theorem dX2_choose_34 : decode cX2_choose 34 = .ok (.iload_n 3, 1) := by decide +kernel
theorem dX2_choose_35 : decode cX2_choose 35 = .ok (.iaload, 1) := by decide +kernel
theorem dX2_choose_36 : decode cX2_choose 36 = .ok (.iload_n 2, 1) := by decide +kernel
theorem dX2_choose_37 : decode cX2_choose 37 = .ok (.aload_n 0, 1) := by decide +kernel
theorem dX2_choose_38 : decode cX2_choose 38 = .ok (.getfield 9, 3) := by decide +kernel
theorem dX2_choose_41 : decode cX2_choose 41 = .ok (.iload_n 3, 1) := by decide +kernel
theorem dX2_choose_42 : decode cX2_choose 42 = .ok (.iaload, 1) := by decide +kernel
theorem dX2_choose_43 : decode cX2_choose 43 = .ok (.isub, 1) := by decide +kernel
theorem dX2_choose_44 : decode cX2_choose 44 = .ok (.invokestatic 30, 3) := by decide +kernel
theorem dX2_choose_47 : decode cX2_choose 47 = .ok (.istore 4, 2) := by decide +kernel
theorem dX2_choose_49 : decode cX2_choose 49 = .ok (.aload_n 0, 1) := by decide +kernel
theorem dX2_choose_50 : decode cX2_choose 50 = .ok (.getfield 23, 3) := by decide +kernel
theorem dX2_choose_53 : decode cX2_choose 53 = .ok (.bipush (-6), 2) := by decide +kernel
theorem dX2_choose_55 : decode cX2_choose 55 = .ok (.if_icmp .eq 12, 3) := by decide +kernel
theorem dX2_choose_58 : decode cX2_choose 58 = .ok (.iload 4, 2) := by decide +kernel
theorem dX2_choose_60 : decode cX2_choose 60 = .ok (.aload_n 0, 1) := by decide +kernel
theorem dX2_choose_61 : decode cX2_choose 61 = .ok (.getfield 27, 3) := by decide +kernel
theorem dX2_choose_64 : decode cX2_choose 64 = .ok (.if_icmp .ge 14, 3) := by decide +kernel
theorem dX2_choose_67 : decode cX2_choose 67 = .ok (.aload_n 0, 1) := by decide +kernel
theorem dX2_choose_68 : decode cX2_choose 68 = .ok (.iload_n 3, 1) := by decide +kernel
theorem dX2_choose_69 : decode cX2_choose 69 = .ok (.putfield 23, 3) := by decide +kernel
theorem dX2_choose_72 : decode cX2_choose 72 = .ok (.aload_n 0, 1) := by decide +kernel
theorem dX2_choose_73 : decode cX2_choose 73 = .ok (.iload 4, 2) := by decide +kernel
theorem dX2_choose_75 : decode cX2_choose 75 = .ok (.putfield 27, 3) := by decide +kernel
theorem dX2_choose_78 : decode cX2_choose 78 = .ok (.iinc 3 1, 3) := by decide +kernel
theorem dX2_choose_81 : decode cX2_choose 81 = .ok (.goto (-61), 3) := by decide +kernel
theorem dX2_choose_84 : decode cX2_choose 84 = .ok (.return_, 1) := by decide +kernel
set_option maxRecDepth 20000 in
theorem ggX2_countAgreeing_X2_fits : GoodIn wsX2_countAgreeing wsX2_fits := goodIn_r _ [5, 6, 7, 4, 8, 9, 10, 11, 15, 16, 17, 18, 19, 20, 21, 22, 23, 24, 25, 26] (by decide +kernel) (by decide +kernel)
set_option maxRecDepth 20000 in
theorem gX2_countAgreeing_X2_fits : GoodIn wsX2_countAgreeing (va_wsS RX2 15 yX2_fits wsX2_fits) := goodIn_app (goodIn_of _ (by decide +kernel)) ggX2_countAgreeing_X2_fits
set_option maxRecDepth 20000 in
theorem ggX2_countAgreeing_X2_thingsOf : GoodIn wsX2_countAgreeing wsX2_thingsOf := goodIn_r _ [8, 9, 10, 11] (by decide +kernel) (by decide +kernel)
set_option maxRecDepth 20000 in
theorem gX2_countAgreeing_X2_thingsOf : GoodIn wsX2_countAgreeing (va_wsS RX2 36 yX2_thingsOf wsX2_thingsOf) := goodIn_app (goodIn_of _ (by decide +kernel)) ggX2_countAgreeing_X2_thingsOf
theorem dX2_countAgreeing_0 : decode cX2_countAgreeing 0 = .ok (.iconst 0, 1) := by decide +kernel
theorem dX2_countAgreeing_1 : decode cX2_countAgreeing 1 = .ok (.istore_n 2, 1) := by decide +kernel
theorem dX2_countAgreeing_2 : decode cX2_countAgreeing 2 = .ok (.iconst 0, 1) := by decide +kernel
theorem dX2_countAgreeing_3 : decode cX2_countAgreeing 3 = .ok (.istore_n 3, 1) := by decide +kernel
theorem dX2_countAgreeing_4 : decode cX2_countAgreeing 4 = .ok (.iload_n 3, 1) := by decide +kernel
theorem dX2_countAgreeing_5 : decode cX2_countAgreeing 5 = .ok (.bipush 8, 2) := by decide +kernel
theorem dX2_countAgreeing_7 : decode cX2_countAgreeing 7 = .ok (.if_icmp .ge 16, 3) := by decide +kernel
theorem dX2_countAgreeing_10 : decode cX2_countAgreeing 10 = .ok (.aload_n 0, 1) := by decide +kernel
theorem dX2_countAgreeing_11 : decode cX2_countAgreeing 11 = .ok (.getfield 9, 3) := by decide +kernel
theorem dX2_countAgreeing_14 : decode cX2_countAgreeing 14 = .ok (.iload_n 3, 1) := by decide +kernel
theorem dX2_countAgreeing_15 : decode cX2_countAgreeing 15 = .ok (.iconst 0, 1) := by decide +kernel
theorem dX2_countAgreeing_16 : decode cX2_countAgreeing 16 = .ok (.iastore, 1) := by decide +kernel
theorem dX2_countAgreeing_17 : decode cX2_countAgreeing 17 = .ok (.iinc 3 1, 3) := by decide +kernel
theorem dX2_countAgreeing_20 : decode cX2_countAgreeing 20 = .ok (.goto (-16), 3) := by decide +kernel
theorem dX2_countAgreeing_23 : decode cX2_countAgreeing 23 = .ok (.iconst 0, 1) := by decide +kernel
theorem dX2_countAgreeing_24 : decode cX2_countAgreeing 24 = .ok (.istore_n 3, 1) := by decide +kernel
theorem dX2_countAgreeing_25 : decode cX2_countAgreeing 25 = .ok (.iload_n 3, 1) := by decide +kernel
theorem dX2_countAgreeing_26 : decode cX2_countAgreeing 26 = .ok (.bipush 32, 2) := by decide +kernel
theorem dX2_countAgreeing_28 : decode cX2_countAgreeing 28 = .ok (.if_icmp .ge 59, 3) := by decide +kernel
theorem dX2_countAgreeing_31 : decode cX2_countAgreeing 31 = .ok (.aload_n 1, 1) := by decide +kernel
theorem dX2_countAgreeing_32 : decode cX2_countAgreeing 32 = .ok (.iload_n 3, 1) := by decide +kernel
theorem dX2_countAgreeing_33 : decode cX2_countAgreeing 33 = .ok (.invokestatic 15, 3) := by decide +kernel
theorem dX2_countAgreeing_36 : decode cX2_countAgreeing 36 = .ok (.ifCond .eq 45, 3) := by decide +kernel
theorem dX2_countAgreeing_39 : decode cX2_countAgreeing 39 = .ok (.iinc 2 1, 3) := by decide +kernel
theorem dX2_countAgreeing_42 : decode cX2_countAgreeing 42 = .ok (.iload_n 3, 1) := by decide +kernel
theorem dX2_countAgreeing_43 : decode cX2_countAgreeing 43 = .ok (.invokestatic 36, 3) := by decide +kernel
theorem dX2_countAgreeing_46 : decode cX2_countAgreeing 46 = .ok (.istore 4, 2) := by decide +kernel
theorem dX2_countAgreeing_48 : decode cX2_countAgreeing 48 = .ok (.iconst 0, 1) := by decide +kernel
theorem dX2_countAgreeing_49 : decode cX2_countAgreeing 49 = .ok (.istore 5, 2) := by decide +kernel
theorem dX2_countAgreeing_51 : decode cX2_countAgreeing 51 = .ok (.iload 5, 2) := by decide +kernel
theorem dX2_countAgreeing_53 : decode cX2_countAgreeing 53 = .ok (.bipush 8, 2) := by decide +kernel
theorem dX2_countAgreeing_55 : decode cX2_countAgreeing 55 = .ok (.if_icmp .ge 26, 3) := by decide +kernel
theorem dX2_countAgreeing_58 : decode cX2_countAgreeing 58 = .ok (.aload_n 0, 1) := by decide +kernel
theorem dX2_countAgreeing_59 : decode cX2_countAgreeing 59 = .ok (.getfield 9, 3) := by decide +kernel
theorem dX2_countAgreeing_62 : decode cX2_countAgreeing 62 = .ok (.iload 5, 2) := by decide +kernel
theorem dX2_countAgreeing_64 : decode cX2_countAgreeing 64 = .ok (.dup2, 1) := by decide +kernel
theorem dX2_countAgreeing_65 : decode cX2_countAgreeing 65 = .ok (.iaload, 1) := by decide +kernel
theorem dX2_countAgreeing_66 : decode cX2_countAgreeing 66 = .ok (.iload 4, 2) := by decide +kernel
theorem dX2_countAgreeing_68 : decode cX2_countAgreeing 68 = .ok (.iload 5, 2) := by decide +kernel
theorem dX2_countAgreeing_70 : decode cX2_countAgreeing 70 = .ok (.ishr, 1) := by decide +kernel
theorem dX2_countAgreeing_71 : decode cX2_countAgreeing 71 = .ok (.iconst 1, 1) := by decide +kernel
theorem dX2_countAgreeing_72 : decode cX2_countAgreeing 72 = .ok (.iand, 1) := by decide +kernel
theorem dX2_countAgreeing_73 : decode cX2_countAgreeing 73 = .ok (.iadd, 1) := by decide +kernel
theorem dX2_countAgreeing_74 : decode cX2_countAgreeing 74 = .ok (.iastore, 1) := by decide +kernel
theorem dX2_countAgreeing_75 : decode cX2_countAgreeing 75 = .ok (.iinc 5 1, 3) := by decide +kernel
theorem dX2_countAgreeing_78 : decode cX2_countAgreeing 78 = .ok (.goto (-27), 3) := by decide +kernel
theorem dX2_countAgreeing_81 : decode cX2_countAgreeing 81 = .ok (.iinc 3 1, 3) := by decide +kernel
theorem dX2_countAgreeing_84 : decode cX2_countAgreeing 84 = .ok (.goto (-59), 3) := by decide +kernel
theorem dX2_countAgreeing_87 : decode cX2_countAgreeing 87 = .ok (.iload_n 2, 1) := by decide +kernel
theorem dX2_countAgreeing_88 : decode cX2_countAgreeing 88 = .ok (.ireturn, 1) := by decide +kernel
set_option maxRecDepth 20000 in
theorem ggX2_fits_X2_thingsOf : GoodIn wsX2_fits wsX2_thingsOf := goodIn_r _ [4, 5, 6, 7] (by decide +kernel) (by decide +kernel)
set_option maxRecDepth 20000 in
theorem gX2_fits_X2_thingsOf : GoodIn wsX2_fits (va_wsS RX2 36 yX2_thingsOf wsX2_thingsOf) := goodIn_app (goodIn_of _ (by decide +kernel)) ggX2_fits_X2_thingsOf
theorem dX2_fits_0 : decode cX2_fits 0 = .ok (.iload_n 1, 1) := by decide +kernel
theorem dX2_fits_1 : decode cX2_fits 1 = .ok (.invokestatic 36, 3) := by decide +kernel
theorem dX2_fits_4 : decode cX2_fits 4 = .ok (.istore_n 2, 1) := by decide +kernel
theorem dX2_fits_5 : decode cX2_fits 5 = .ok (.aload_n 0, 1) := by decide +kernel
theorem dX2_fits_6 : decode cX2_fits 6 = .ok (.getfield 40, 3) := by decide +kernel
theorem dX2_fits_9 : decode cX2_fits 9 = .ok (.iload_n 2, 1) := by decide +kernel
theorem dX2_fits_10 : decode cX2_fits 10 = .ok (.iconst (-1), 1) := by decide +kernel
theorem dX2_fits_11 : decode cX2_fits 11 = .ok (.ixor, 1) := by decide +kernel
theorem dX2_fits_12 : decode cX2_fits 12 = .ok (.iand, 1) := by decide +kernel
theorem dX2_fits_13 : decode cX2_fits 13 = .ok (.ifCond .ne 16, 3) := by decide +kernel
theorem dX2_fits_16 : decode cX2_fits 16 = .ok (.aload_n 0, 1) := by decide +kernel
theorem dX2_fits_17 : decode cX2_fits 17 = .ok (.getfield 45, 3) := by decide +kernel
theorem dX2_fits_20 : decode cX2_fits 20 = .ok (.iload_n 2, 1) := by decide +kernel
theorem dX2_fits_21 : decode cX2_fits 21 = .ok (.iand, 1) := by decide +kernel
theorem dX2_fits_22 : decode cX2_fits 22 = .ok (.ifCond .ne 7, 3) := by decide +kernel
theorem dX2_fits_25 : decode cX2_fits 25 = .ok (.iconst 1, 1) := by decide +kernel
theorem dX2_fits_26 : decode cX2_fits 26 = .ok (.goto 4, 3) := by decide +kernel
theorem dX2_fits_29 : decode cX2_fits 29 = .ok (.iconst 0, 1) := by decide +kernel
theorem dX2_fits_30 : decode cX2_fits 30 = .ok (.ireturn, 1) := by decide +kernel
set_option maxRecDepth 20000 in
theorem ggX2_thingsOf_X8_withBit : GoodIn wsX2_thingsOf wsX8_withBit := goodIn_r _ [3] (by decide +kernel) (by decide +kernel)
set_option maxRecDepth 20000 in
theorem gX2_thingsOf_X8_withBit_n48 : GoodIn wsX2_thingsOf (wsX8_withBit) := ggX2_thingsOf_X8_withBit
theorem dX2_thingsOf_0 : decode cX2_thingsOf 0 = .ok (.iload_n 0, 1) := by decide +kernel
theorem dX2_thingsOf_1 : decode cX2_thingsOf 1 = .ok (.iconst 4, 1) := by decide +kernel
theorem dX2_thingsOf_2 : decode cX2_thingsOf 2 = .ok (.idiv, 1) := by decide +kernel
theorem dX2_thingsOf_3 : decode cX2_thingsOf 3 = .ok (.istore_n 1, 1) := by decide +kernel
theorem dX2_thingsOf_4 : decode cX2_thingsOf 4 = .ok (.iload_n 0, 1) := by decide +kernel
theorem dX2_thingsOf_5 : decode cX2_thingsOf 5 = .ok (.iconst 4, 1) := by decide +kernel
theorem dX2_thingsOf_6 : decode cX2_thingsOf 6 = .ok (.irem, 1) := by decide +kernel
theorem dX2_thingsOf_7 : decode cX2_thingsOf 7 = .ok (.istore_n 2, 1) := by decide +kernel
theorem dX2_thingsOf_8 : decode cX2_thingsOf 8 = .ok (.iconst 0, 1) := by decide +kernel
theorem dX2_thingsOf_9 : decode cX2_thingsOf 9 = .ok (.istore_n 3, 1) := by decide +kernel
theorem dX2_thingsOf_10 : decode cX2_thingsOf 10 = .ok (.iload_n 2, 1) := by decide +kernel
theorem dX2_thingsOf_11 : decode cX2_thingsOf 11 = .ok (.ineg, 1) := by decide +kernel
theorem dX2_thingsOf_12 : decode cX2_thingsOf 12 = .ok (.istore 4, 2) := by decide +kernel
theorem dX2_thingsOf_14 : decode cX2_thingsOf 14 = .ok (.iload 4, 2) := by decide +kernel
theorem dX2_thingsOf_16 : decode cX2_thingsOf 16 = .ok (.iload_n 2, 1) := by decide +kernel
theorem dX2_thingsOf_17 : decode cX2_thingsOf 17 = .ok (.if_icmp .gt 22, 3) := by decide +kernel
theorem dX2_thingsOf_20 : decode cX2_thingsOf 20 = .ok (.iload_n 3, 1) := by decide +kernel
theorem dX2_thingsOf_21 : decode cX2_thingsOf 21 = .ok (.iload_n 1, 1) := by decide +kernel
theorem dX2_thingsOf_22 : decode cX2_thingsOf 22 = .ok (.iload 4, 2) := by decide +kernel
theorem dX2_thingsOf_24 : decode cX2_thingsOf 24 = .ok (.iadd, 1) := by decide +kernel
theorem dX2_thingsOf_25 : decode cX2_thingsOf 25 = .ok (.bipush 7, 2) := by decide +kernel
theorem dX2_thingsOf_27 : decode cX2_thingsOf 27 = .ok (.iand, 1) := by decide +kernel
theorem dX2_thingsOf_28 : decode cX2_thingsOf 28 = .ok (.iconst 1, 1) := by decide +kernel
theorem dX2_thingsOf_29 : decode cX2_thingsOf 29 = .ok (.invokestatic 48, 3) := by decide +kernel
theorem dX2_thingsOf_32 : decode cX2_thingsOf 32 = .ok (.istore_n 3, 1) := by decide +kernel
theorem dX2_thingsOf_33 : decode cX2_thingsOf 33 = .ok (.iinc 4 1, 3) := by decide +kernel
theorem dX2_thingsOf_36 : decode cX2_thingsOf 36 = .ok (.goto (-22), 3) := by decide +kernel
theorem dX2_thingsOf_39 : decode cX2_thingsOf 39 = .ok (.iload_n 3, 1) := by decide +kernel
theorem dX2_thingsOf_40 : decode cX2_thingsOf 40 = .ok (.ireturn, 1) := by decide +kernel
theorem dX3_init_0 : decode cX3_init 0 = .ok (.aload_n 0, 1) := by decide +kernel
theorem dX3_init_1 : decode cX3_init 1 = .ok (.invokespecial 3, 3) := by decide +kernel
theorem dX3_init_4 : decode cX3_init 4 = .ok (.aload_n 0, 1) := by decide +kernel
theorem dX3_init_5 : decode cX3_init 5 = .ok (.bipush 60, 2) := by decide +kernel
theorem dX3_init_7 : decode cX3_init 7 = .ok (.newarray .int, 2) := by decide +kernel
theorem dX3_init_9 : decode cX3_init 9 = .ok (.putfield 9, 3) := by decide +kernel
theorem dX3_init_12 : decode cX3_init 12 = .ok (.aload_n 0, 1) := by decide +kernel
theorem dX3_init_13 : decode cX3_init 13 = .ok (.bipush 60, 2) := by decide +kernel
theorem dX3_init_15 : decode cX3_init 15 = .ok (.newarray .int, 2) := by decide +kernel
theorem dX3_init_17 : decode cX3_init 17 = .ok (.putfield 15, 3) := by decide +kernel
theorem dX3_init_20 : decode cX3_init 20 = .ok (.aload_n 0, 1) := by decide +kernel
theorem dX3_init_21 : decode cX3_init 21 = .ok (.bipush 60, 2) := by decide +kernel
theorem dX3_init_23 : decode cX3_init 23 = .ok (.newarray .int, 2) := by decide +kernel
theorem dX3_init_25 : decode cX3_init 25 = .ok (.putfield 18, 3) := by decide +kernel
theorem dX3_init_28 : decode cX3_init 28 = .ok (.aload_n 0, 1) := by decide +kernel
theorem dX3_init_29 : decode cX3_init 29 = .ok (.bipush 60, 2) := by decide +kernel
theorem dX3_init_31 : decode cX3_init 31 = .ok (.newarray .int, 2) := by decide +kernel
theorem dX3_init_33 : decode cX3_init 33 = .ok (.putfield 21, 3) := by decide +kernel
theorem dX3_init_36 : decode cX3_init 36 = .ok (.return_, 1) := by decide +kernel
theorem dX3_write_0 : decode cX3_write 0 = .ok (.aload_n 0, 1) := by decide +kernel
theorem dX3_write_1 : decode cX3_write 1 = .ok (.getfield 24, 3) := by decide +kernel
theorem dX3_write_4 : decode cX3_write 4 = .ok (.bipush 60, 2) := by decide +kernel
theorem dX3_write_6 : decode cX3_write 6 = .ok (.if_icmp .lt 5, 3) := by decide +kernel
theorem dX3_write_9 : decode cX3_write 9 = .ok (.iconst 0, 1) := by decide +kernel
theorem dX3_write_10 : decode cX3_write 10 = .ok (.ireturn, 1) := by decide +kernel
theorem dX3_write_11 : decode cX3_write 11 = .ok (.aload_n 0, 1) := by decide +kernel
theorem dX3_write_12 : decode cX3_write 12 = .ok (.getfield 9, 3) := by decide +kernel
theorem dX3_write_15 : decode cX3_write 15 = .ok (.aload_n 0, 1) := by decide +kernel
theorem dX3_write_16 : decode cX3_write 16 = .ok (.getfield 24, 3) := by decide +kernel
theorem dX3_write_19 : decode cX3_write 19 = .ok (.iload_n 1, 1) := by decide +kernel
theorem dX3_write_20 : decode cX3_write 20 = .ok (.iastore, 1) := by decide +kernel
theorem dX3_write_21 : decode cX3_write 21 = .ok (.aload_n 0, 1) := by decide +kernel
theorem dX3_write_22 : decode cX3_write 22 = .ok (.dup, 1) := by decide +kernel
theorem dX3_write_23 : decode cX3_write 23 = .ok (.getfield 24, 3) := by decide +kernel
theorem dX3_write_26 : decode cX3_write 26 = .ok (.iconst 1, 1) := by decide +kernel
theorem dX3_write_27 : decode cX3_write 27 = .ok (.iadd, 1) := by decide +kernel
theorem dX3_write_28 : decode cX3_write 28 = .ok (.putfield 24, 3) := by decide +kernel
theorem dX3_write_31 : decode cX3_write 31 = .ok (.iconst 1, 1) := by decide +kernel
theorem dX3_write_32 : decode cX3_write 32 = .ok (.ireturn, 1) := by decide +kernel
set_option maxRecDepth 20000 in
theorem ggX3_read_X3_kindOf : GoodIn wsX3_read wsX3_kindOf := goodIn_r _ [7, 8, 9, 10, 11, 12, 13] (by decide +kernel) (by decide +kernel)
set_option maxRecDepth 20000 in
theorem gX3_read_X3_kindOf : GoodIn wsX3_read (va_wsS RX3 31 yX3_kindOf wsX3_kindOf) := goodIn_app (goodIn_of _ (by decide +kernel)) ggX3_read_X3_kindOf
set_option maxRecDepth 20000 in
theorem ggX3_read_X3_addAct : GoodIn wsX3_read wsX3_addAct := goodIn_r _ [17, 1, 18, 19, 20, 26, 27, 28, 29, 30, 31] (by decide +kernel) (by decide +kernel)
set_option maxRecDepth 20000 in
theorem gX3_read_X3_addAct : GoodIn wsX3_read (wsV RX3 35 RX3 yX3_addAct wsX3_addAct) := goodIn_app (goodIn_of _ (by decide +kernel)) ggX3_read_X3_addAct
set_option maxRecDepth 20000 in
theorem ggX3_read_X3_isHead : GoodIn wsX3_read wsX3_isHead := goodIn_r _ [23, 24, 9, 25, 11, 12, 13] (by decide +kernel) (by decide +kernel)
set_option maxRecDepth 20000 in
theorem gX3_read_X3_isHead : GoodIn wsX3_read (va_wsS RX3 39 yX3_isHead wsX3_isHead) := goodIn_app (goodIn_of _ (by decide +kernel)) ggX3_read_X3_isHead
theorem dX3_read_0 : decode cX3_read 0 = .ok (.aload_n 0, 1) := by decide +kernel
theorem dX3_read_1 : decode cX3_read 1 = .ok (.iconst 0, 1) := by decide +kernel
theorem dX3_read_2 : decode cX3_read 2 = .ok (.putfield 28, 3) := by decide +kernel
theorem dX3_read_5 : decode cX3_read 5 = .ok (.iconst 0, 1) := by decide +kernel
theorem dX3_read_6 : decode cX3_read 6 = .ok (.istore_n 1, 1) := by decide +kernel
theorem dX3_read_7 : decode cX3_read 7 = .ok (.iconst 0, 1) := by decide +kernel
theorem dX3_read_8 : decode cX3_read 8 = .ok (.istore_n 2, 1) := by decide +kernel
theorem dX3_read_9 : decode cX3_read 9 = .ok (.iload_n 2, 1) := by decide +kernel
theorem dX3_read_10 : decode cX3_read 10 = .ok (.aload_n 0, 1) := by decide +kernel
theorem dX3_read_11 : decode cX3_read 11 = .ok (.getfield 24, 3) := by decide +kernel
theorem dX3_read_14 : decode cX3_read 14 = .ok (.if_icmp .ge 91, 3) := by decide +kernel
theorem dX3_read_17 : decode cX3_read 17 = .ok (.iload_n 2, 1) := by decide +kernel
theorem dX3_read_18 : decode cX3_read 18 = .ok (.bipush 60, 2) := by decide +kernel
theorem dX3_read_20 : decode cX3_read 20 = .ok (.if_icmp .ge 85, 3) := by decide +kernel
theorem dX3_read_23 : decode cX3_read 23 = .ok (.aload_n 0, 1) := by decide +kernel
theorem dX3_read_24 : decode cX3_read 24 = .ok (.getfield 9, 3) := by decide +kernel
theorem dX3_read_27 : decode cX3_read 27 = .ok (.iload_n 2, 1) := by decide +kernel
theorem dX3_read_28 : decode cX3_read 28 = .ok (.iaload, 1) := by decide +kernel
theorem dX3_read_29 : decode cX3_read 29 = .ok (.istore_n 3, 1) := by decide +kernel
theorem dX3_read_30 : decode cX3_read 30 = .ok (.iload_n 1, 1) := by decide +kernel
theorem dX3_read_31 : decode cX3_read 31 = .ok (.ifCond .eq 38, 3) := by decide +kernel
theorem dX3_read_34 : decode cX3_read 34 = .ok (.iload_n 1, 1) := by decide +kernel
theorem dX3_read_35 : decode cX3_read 35 = .ok (.iload_n 3, 1) := by decide +kernel
theorem dX3_read_36 : decode cX3_read 36 = .ok (.invokestatic 31, 3) := by decide +kernel
theorem dX3_read_39 : decode cX3_read 39 = .ok (.istore 4, 2) := by decide +kernel
theorem dX3_read_41 : decode cX3_read 41 = .ok (.iload 4, 2) := by decide +kernel
theorem dX3_read_43 : decode cX3_read 43 = .ok (.bipush (-6), 2) := by decide +kernel
theorem dX3_read_45 : decode cX3_read 45 = .ok (.if_icmp .ne 5, 3) := by decide +kernel
theorem dX3_read_48 : decode cX3_read 48 = .ok (.iload_n 2, 1) := by decide +kernel
theorem dX3_read_49 : decode cX3_read 49 = .ok (.ireturn, 1) := by decide +kernel
theorem dX3_read_50 : decode cX3_read 50 = .ok (.aload_n 0, 1) := by decide +kernel
theorem dX3_read_51 : decode cX3_read 51 = .ok (.iload 4, 2) := by decide +kernel
theorem dX3_read_53 : decode cX3_read 53 = .ok (.iload_n 1, 1) := by decide +kernel
theorem dX3_read_54 : decode cX3_read 54 = .ok (.bipush 65, 2) := by decide +kernel
theorem dX3_read_56 : decode cX3_read 56 = .ok (.isub, 1) := by decide +kernel
theorem dX3_read_57 : decode cX3_read 57 = .ok (.iload_n 3, 1) := by decide +kernel
theorem dX3_read_58 : decode cX3_read 58 = .ok (.bipush 48, 2) := by decide +kernel
theorem dX3_read_60 : decode cX3_read 60 = .ok (.isub, 1) := by decide +kernel
theorem dX3_read_61 : decode cX3_read 61 = .ok (.invokevirtual 35, 3) := by decide +kernel
theorem dX3_read_64 : decode cX3_read 64 = .ok (.iconst 0, 1) := by decide +kernel
theorem dX3_read_65 : decode cX3_read 65 = .ok (.istore_n 1, 1) := by decide +kernel
theorem dX3_read_66 : decode cX3_read 66 = .ok (.goto 33, 3) := by decide +kernel
theorem dX3_read_69 : decode cX3_read 69 = .ok (.iload_n 3, 1) := by decide +kernel
theorem dX3_read_70 : decode cX3_read 70 = .ok (.bipush 46, 2) := by decide +kernel
theorem dX3_read_72 : decode cX3_read 72 = .ok (.if_icmp .ne 13, 3) := by decide +kernel
theorem dX3_read_75 : decode cX3_read 75 = .ok (.aload_n 0, 1) := by decide +kernel
theorem dX3_read_76 : decode cX3_read 76 = .ok (.iconst 5, 1) := by decide +kernel
theorem dX3_read_77 : decode cX3_read 77 = .ok (.iconst 0, 1) := by decide +kernel
theorem dX3_read_78 : decode cX3_read 78 = .ok (.iconst 0, 1) := by decide +kernel
theorem dX3_read_79 : decode cX3_read 79 = .ok (.invokevirtual 35, 3) := by decide +kernel
theorem dX3_read_82 : decode cX3_read 82 = .ok (.goto 17, 3) := by decide +kernel
theorem dX3_read_85 : decode cX3_read 85 = .ok (.iload_n 3, 1) := by decide +kernel
theorem dX3_read_86 : decode cX3_read 86 = .ok (.invokestatic 39, 3) := by decide +kernel
theorem dX3_read_89 : decode cX3_read 89 = .ok (.ifCond .eq 8, 3) := by decide +kernel
theorem dX3_read_92 : decode cX3_read 92 = .ok (.iload_n 3, 1) := by decide +kernel
theorem dX3_read_93 : decode cX3_read 93 = .ok (.istore_n 1, 1) := by decide +kernel
theorem dX3_read_94 : decode cX3_read 94 = .ok (.goto 5, 3) := by decide +kernel
theorem dX3_read_97 : decode cX3_read 97 = .ok (.iload_n 2, 1) := by decide +kernel
theorem dX3_read_98 : decode cX3_read 98 = .ok (.ireturn, 1) := by decide +kernel
theorem dX3_read_99 : decode cX3_read 99 = .ok (.iinc 2 1, 3) := by decide +kernel
theorem dX3_read_102 : decode cX3_read 102 = .ok (.goto (-93), 3) := by decide +kernel
theorem dX3_read_105 : decode cX3_read 105 = .ok (.iload_n 1, 1) := by decide +kernel
theorem dX3_read_106 : decode cX3_read 106 = .ok (.ifCond .ne 8, 3) := by decide +kernel
theorem dX3_read_109 : decode cX3_read 109 = .ok (.bipush (-6), 2) := by decide +kernel
theorem dX3_read_111 : decode cX3_read 111 = .ok (.goto 7, 3) := by decide +kernel
theorem dX3_read_114 : decode cX3_read 114 = .ok (.aload_n 0, 1) := by decide +kernel
theorem dX3_read_115 : decode cX3_read 115 = .ok (.getfield 24, 3) := by decide +kernel
theorem dX3_read_118 : decode cX3_read 118 = .ok (.ireturn, 1) := by decide +kernel
set_option maxRecDepth 20000 in
theorem ggX3_isHead_X8_isParish : GoodIn wsX3_isHead wsX8_isParish := goodIn_r _ [3, 4, 5, 2, 6] (by decide +kernel) (by decide +kernel)
set_option maxRecDepth 20000 in
theorem gX3_isHead_X8_isParish_n43 : GoodIn wsX3_isHead (wsX8_isParish) := ggX3_isHead_X8_isParish
theorem dX3_isHead_0 : decode cX3_isHead 0 = .ok (.iload_n 0, 1) := by decide +kernel
theorem dX3_isHead_1 : decode cX3_isHead 1 = .ok (.bipush 65, 2) := by decide +kernel
theorem dX3_isHead_3 : decode cX3_isHead 3 = .ok (.isub, 1) := by decide +kernel
theorem dX3_isHead_4 : decode cX3_isHead 4 = .ok (.invokestatic 43, 3) := by decide +kernel
theorem dX3_isHead_7 : decode cX3_isHead 7 = .ok (.ifCond .ne 15, 3) := by decide +kernel
theorem dX3_isHead_10 : decode cX3_isHead 10 = .ok (.iload_n 0, 1) := by decide +kernel
theorem dX3_isHead_11 : decode cX3_isHead 11 = .ok (.bipush 119, 2) := by decide +kernel
theorem dX3_isHead_13 : decode cX3_isHead 13 = .ok (.if_icmp .eq 9, 3) := by decide +kernel
theorem dX3_isHead_16 : decode cX3_isHead 16 = .ok (.iload_n 0, 1) := by decide +kernel
theorem dX3_isHead_17 : decode cX3_isHead 17 = .ok (.bipush 118, 2) := by decide +kernel
theorem dX3_isHead_19 : decode cX3_isHead 19 = .ok (.if_icmp .ne 7, 3) := by decide +kernel
theorem dX3_isHead_22 : decode cX3_isHead 22 = .ok (.iconst 1, 1) := by decide +kernel
theorem dX3_isHead_23 : decode cX3_isHead 23 = .ok (.goto 4, 3) := by decide +kernel
theorem dX3_isHead_26 : decode cX3_isHead 26 = .ok (.iconst 0, 1) := by decide +kernel
theorem dX3_isHead_27 : decode cX3_isHead 27 = .ok (.ireturn, 1) := by decide +kernel
set_option maxRecDepth 20000 in
theorem ggX3_kindOf_X8_isWay : GoodIn wsX3_kindOf wsX8_isWay := goodIn_r _ [3, 4, 5, 2, 6] (by decide +kernel) (by decide +kernel)
set_option maxRecDepth 20000 in
theorem gX3_kindOf_X8_isWay_n46 : GoodIn wsX3_kindOf (wsX8_isWay) := ggX3_kindOf_X8_isWay
theorem dX3_kindOf_0 : decode cX3_kindOf 0 = .ok (.iload_n 1, 1) := by decide +kernel
theorem dX3_kindOf_1 : decode cX3_kindOf 1 = .ok (.bipush 48, 2) := by decide +kernel
theorem dX3_kindOf_3 : decode cX3_kindOf 3 = .ok (.isub, 1) := by decide +kernel
theorem dX3_kindOf_4 : decode cX3_kindOf 4 = .ok (.invokestatic 46, 3) := by decide +kernel
theorem dX3_kindOf_7 : decode cX3_kindOf 7 = .ok (.istore_n 2, 1) := by decide +kernel
theorem dX3_kindOf_8 : decode cX3_kindOf 8 = .ok (.iload_n 0, 1) := by decide +kernel
theorem dX3_kindOf_9 : decode cX3_kindOf 9 = .ok (.bipush 119, 2) := by decide +kernel
theorem dX3_kindOf_11 : decode cX3_kindOf 11 = .ok (.if_icmp .ne 14, 3) := by decide +kernel
theorem dX3_kindOf_14 : decode cX3_kindOf 14 = .ok (.iload_n 2, 1) := by decide +kernel
theorem dX3_kindOf_15 : decode cX3_kindOf 15 = .ok (.ifCond .eq 7, 3) := by decide +kernel
theorem dX3_kindOf_18 : decode cX3_kindOf 18 = .ok (.iconst 3, 1) := by decide +kernel
theorem dX3_kindOf_19 : decode cX3_kindOf 19 = .ok (.goto 5, 3) := by decide +kernel
theorem dX3_kindOf_22 : decode cX3_kindOf 22 = .ok (.bipush (-6), 2) := by decide +kernel
theorem dX3_kindOf_24 : decode cX3_kindOf 24 = .ok (.ireturn, 1) := by decide +kernel
theorem dX3_kindOf_25 : decode cX3_kindOf 25 = .ok (.iload_n 0, 1) := by decide +kernel
theorem dX3_kindOf_26 : decode cX3_kindOf 26 = .ok (.bipush 118, 2) := by decide +kernel
theorem dX3_kindOf_28 : decode cX3_kindOf 28 = .ok (.if_icmp .ne 14, 3) := by decide +kernel
theorem dX3_kindOf_31 : decode cX3_kindOf 31 = .ok (.iload_n 2, 1) := by decide +kernel
theorem dX3_kindOf_32 : decode cX3_kindOf 32 = .ok (.ifCond .eq 7, 3) := by decide +kernel
theorem dX3_kindOf_35 : decode cX3_kindOf 35 = .ok (.iconst 4, 1) := by decide +kernel
theorem dX3_kindOf_36 : decode cX3_kindOf 36 = .ok (.goto 5, 3) := by decide +kernel
theorem dX3_kindOf_39 : decode cX3_kindOf 39 = .ok (.bipush (-6), 2) := by decide +kernel
theorem dX3_kindOf_41 : decode cX3_kindOf 41 = .ok (.ireturn, 1) := by decide +kernel
theorem dX3_kindOf_42 : decode cX3_kindOf 42 = .ok (.iload_n 1, 1) := by decide +kernel
theorem dX3_kindOf_43 : decode cX3_kindOf 43 = .ok (.bipush 42, 2) := by decide +kernel
theorem dX3_kindOf_45 : decode cX3_kindOf 45 = .ok (.if_icmp .ne 5, 3) := by decide +kernel
theorem dX3_kindOf_48 : decode cX3_kindOf 48 = .ok (.iconst 0, 1) := by decide +kernel
theorem dX3_kindOf_49 : decode cX3_kindOf 49 = .ok (.ireturn, 1) := by decide +kernel
theorem dX3_kindOf_50 : decode cX3_kindOf 50 = .ok (.iload_n 1, 1) := by decide +kernel
theorem dX3_kindOf_51 : decode cX3_kindOf 51 = .ok (.bipush 35, 2) := by decide +kernel
theorem dX3_kindOf_53 : decode cX3_kindOf 53 = .ok (.if_icmp .ne 5, 3) := by decide +kernel
theorem dX3_kindOf_56 : decode cX3_kindOf 56 = .ok (.iconst 1, 1) := by decide +kernel
theorem dX3_kindOf_57 : decode cX3_kindOf 57 = .ok (.ireturn, 1) := by decide +kernel
theorem dX3_kindOf_58 : decode cX3_kindOf 58 = .ok (.iload_n 2, 1) := by decide +kernel
theorem dX3_kindOf_59 : decode cX3_kindOf 59 = .ok (.ifCond .eq 7, 3) := by decide +kernel
theorem dX3_kindOf_62 : decode cX3_kindOf 62 = .ok (.iconst 2, 1) := by decide +kernel
theorem dX3_kindOf_63 : decode cX3_kindOf 63 = .ok (.goto 5, 3) := by decide +kernel
theorem dX3_kindOf_66 : decode cX3_kindOf 66 = .ok (.bipush (-6), 2) := by decide +kernel
theorem dX3_kindOf_68 : decode cX3_kindOf 68 = .ok (.ireturn, 1) := by decide +kernel
theorem dX3_addAct_0 : decode cX3_addAct 0 = .ok (.aload_n 0, 1) := by decide +kernel
theorem dX3_addAct_1 : decode cX3_addAct 1 = .ok (.getfield 28, 3) := by decide +kernel
theorem dX3_addAct_4 : decode cX3_addAct 4 = .ok (.bipush 60, 2) := by decide +kernel
theorem dX3_addAct_6 : decode cX3_addAct 6 = .ok (.if_icmp .ge 43, 3) := by decide +kernel
theorem dX3_addAct_9 : decode cX3_addAct 9 = .ok (.aload_n 0, 1) := by decide +kernel
theorem dX3_addAct_10 : decode cX3_addAct 10 = .ok (.getfield 15, 3) := by decide +kernel
theorem dX3_addAct_13 : decode cX3_addAct 13 = .ok (.aload_n 0, 1) := by decide +kernel
theorem dX3_addAct_14 : decode cX3_addAct 14 = .ok (.getfield 28, 3) := by decide +kernel
theorem dX3_addAct_17 : decode cX3_addAct 17 = .ok (.iload_n 1, 1) := by decide +kernel
theorem dX3_addAct_18 : decode cX3_addAct 18 = .ok (.iastore, 1) := by decide +kernel
theorem dX3_addAct_19 : decode cX3_addAct 19 = .ok (.aload_n 0, 1) := by decide +kernel
theorem dX3_addAct_20 : decode cX3_addAct 20 = .ok (.getfield 18, 3) := by decide +kernel
theorem dX3_addAct_23 : decode cX3_addAct 23 = .ok (.aload_n 0, 1) := by decide +kernel
theorem dX3_addAct_24 : decode cX3_addAct 24 = .ok (.getfield 28, 3) := by decide +kernel
theorem dX3_addAct_27 : decode cX3_addAct 27 = .ok (.iload_n 2, 1) := by decide +kernel
theorem dX3_addAct_28 : decode cX3_addAct 28 = .ok (.iastore, 1) := by decide +kernel
theorem dX3_addAct_29 : decode cX3_addAct 29 = .ok (.aload_n 0, 1) := by decide +kernel
theorem dX3_addAct_30 : decode cX3_addAct 30 = .ok (.getfield 21, 3) := by decide +kernel
theorem dX3_addAct_33 : decode cX3_addAct 33 = .ok (.aload_n 0, 1) := by decide +kernel
theorem dX3_addAct_34 : decode cX3_addAct 34 = .ok (.getfield 28, 3) := by decide +kernel
theorem dX3_addAct_37 : decode cX3_addAct 37 = .ok (.iload_n 3, 1) := by decide +kernel
theorem dX3_addAct_38 : decode cX3_addAct 38 = .ok (.iastore, 1) := by decide +kernel
theorem dX3_addAct_39 : decode cX3_addAct 39 = .ok (.aload_n 0, 1) := by decide +kernel
theorem dX3_addAct_40 : decode cX3_addAct 40 = .ok (.dup, 1) := by decide +kernel
theorem dX3_addAct_41 : decode cX3_addAct 41 = .ok (.getfield 28, 3) := by decide +kernel
theorem dX3_addAct_44 : decode cX3_addAct 44 = .ok (.iconst 1, 1) := by decide +kernel
theorem dX3_addAct_45 : decode cX3_addAct 45 = .ok (.iadd, 1) := by decide +kernel
theorem dX3_addAct_46 : decode cX3_addAct 46 = .ok (.putfield 28, 3) := by decide +kernel
theorem dX3_addAct_49 : decode cX3_addAct 49 = .ok (.return_, 1) := by decide +kernel
theorem dX4_init_0 : decode cX4_init 0 = .ok (.aload_n 0, 1) := by decide +kernel
theorem dX4_init_1 : decode cX4_init 1 = .ok (.invokespecial 3, 3) := by decide +kernel
theorem dX4_init_4 : decode cX4_init 4 = .ok (.aload_n 0, 1) := by decide +kernel
theorem dX4_init_5 : decode cX4_init 5 = .ok (.bipush 8, 2) := by decide +kernel
theorem dX4_init_7 : decode cX4_init 7 = .ok (.newarray .int, 2) := by decide +kernel
theorem dX4_init_9 : decode cX4_init 9 = .ok (.putfield 9, 3) := by decide +kernel
theorem dX4_init_12 : decode cX4_init 12 = .ok (.return_, 1) := by decide +kernel
set_option maxRecDepth 20000 in
theorem ggX4_count_X4_countFrom : GoodIn wsX4_count wsX4_countFrom := goodIn_r _ [5, 6, 7, 8, 9, 10, 11, 12, 13, 14, 15, 16, 17, 18, 19, 20, 21, 2, 3, 4, 22, 23, 25, 26, 27, 28, 29, 30, 31, 32, 33, 34, 35, 36] (by decide +kernel) (by decide +kernel)
set_option maxRecDepth 20000 in
theorem gX4_count_X4_countFrom : GoodIn wsX4_count (va_wsS RX4 15 yX4_countFrom wsX4_countFrom) := goodIn_app (goodIn_of _ (by decide +kernel)) ggX4_count_X4_countFrom
theorem dX4_count_0 : decode cX4_count 0 = .ok (.aload_n 1, 1) := by decide +kernel
theorem dX4_count_1 : decode cX4_count 1 = .ok (.aload_n 0, 1) := by decide +kernel
theorem dX4_count_2 : decode cX4_count 2 = .ok (.getfield 9, 3) := by decide +kernel
theorem dX4_count_5 : decode cX4_count 5 = .ok (.iconst 0, 1) := by decide +kernel
theorem dX4_count_6 : decode cX4_count 6 = .ok (.iconst 0, 1) := by decide +kernel
theorem dX4_count_7 : decode cX4_count 7 = .ok (.iload_n 2, 1) := by decide +kernel
theorem dX4_count_8 : decode cX4_count 8 = .ok (.invokestatic 15, 3) := by decide +kernel
theorem dX4_count_11 : decode cX4_count 11 = .ok (.ireturn, 1) := by decide +kernel
set_option maxRecDepth 20000 in
theorem ggX4_fewest_X4_count : GoodIn wsX4_fewest wsX4_count := goodIn_r _ [5, 6, 7, 8, 4, 9, 10, 11, 12, 13, 14, 15, 16, 17, 18, 19, 20, 21, 22, 23, 24, 25, 26, 27, 40, 28, 29, 30, 31, 32, 33, 34, 35, 36, 37, 38, 39] (by decide +kernel) (by decide +kernel)
set_option maxRecDepth 20000 in
theorem gX4_fewest_X4_count : GoodIn wsX4_fewest (wsV RX4 25 RX4 yX4_count wsX4_count) := goodIn_app (goodIn_of _ (by decide +kernel)) ggX4_fewest_X4_count
theorem dX4_fewest_0 : decode cX4_fewest 0 = .ok (.aload_n 1, 1) := by decide +kernel
theorem dX4_fewest_1 : decode cX4_fewest 1 = .ok (.getfield 19, 3) := by decide +kernel
theorem dX4_fewest_4 : decode cX4_fewest 4 = .ok (.ifCond .ne 7, 3) := by decide +kernel
theorem dX4_fewest_7 : decode cX4_fewest 7 = .ok (.iconst 0, 1) := by decide +kernel
theorem dX4_fewest_8 : decode cX4_fewest 8 = .ok (.goto 4, 3) := by decide +kernel
theorem dX4_fewest_11 : decode cX4_fewest 11 = .ok (.iconst 1, 1) := by decide +kernel
theorem dX4_fewest_12 : decode cX4_fewest 12 = .ok (.istore_n 2, 1) := by decide +kernel
theorem dX4_fewest_13 : decode cX4_fewest 13 = .ok (.iload_n 2, 1) := by decide +kernel
theorem dX4_fewest_14 : decode cX4_fewest 14 = .ok (.bipush 7, 2) := by decide +kernel
theorem dX4_fewest_16 : decode cX4_fewest 16 = .ok (.if_icmp .ge 18, 3) := by decide +kernel
theorem dX4_fewest_19 : decode cX4_fewest 19 = .ok (.aload_n 0, 1) := by decide +kernel
theorem dX4_fewest_20 : decode cX4_fewest 20 = .ok (.aload_n 1, 1) := by decide +kernel
theorem dX4_fewest_21 : decode cX4_fewest 21 = .ok (.iload_n 2, 1) := by decide +kernel
theorem dX4_fewest_22 : decode cX4_fewest 22 = .ok (.invokevirtual 25, 3) := by decide +kernel
theorem dX4_fewest_25 : decode cX4_fewest 25 = .ok (.ifCond .ne 9, 3) := by decide +kernel
theorem dX4_fewest_28 : decode cX4_fewest 28 = .ok (.iinc 2 1, 3) := by decide +kernel
theorem dX4_fewest_31 : decode cX4_fewest 31 = .ok (.goto (-18), 3) := by decide +kernel
theorem dX4_fewest_34 : decode cX4_fewest 34 = .ok (.iload_n 2, 1) := by decide +kernel
theorem dX4_fewest_35 : decode cX4_fewest 35 = .ok (.ireturn, 1) := by decide +kernel
set_option maxRecDepth 20000 in
theorem ggX4_countFrom_X8_isParish : GoodIn wsX4_countFrom wsX8_isParish := goodIn_r _ [7, 8, 9, 6, 10] (by decide +kernel) (by decide +kernel)
set_option maxRecDepth 20000 in
theorem gX4_countFrom_X8_isParish_n29 : GoodIn wsX4_countFrom (wsX8_isParish) := ggX4_countFrom_X8_isParish
set_option maxRecDepth 20000 in
theorem ggX4_countFrom_X7_isThere : GoodIn wsX4_countFrom wsX7_isThere := goodIn_r _ [15, 16, 22, 23, 24, 25, 26, 27, 28, 29, 30, 31, 32, 33] (by decide +kernel) (by decide +kernel)
set_option maxRecDepth 20000 in
theorem gX4_countFrom_X7_isThere : GoodIn wsX4_countFrom (wsV RX4 33 RX7 yX7_isThere wsX7_isThere) := goodIn_app (goodIn_of _ (by decide +kernel)) ggX4_countFrom_X7_isThere
set_option maxRecDepth 20000 in
theorem ggX4_countFrom_X4_countFrom : GoodIn wsX4_countFrom wsX4_countFrom := goodIn_r _ [0, 1, 2, 3, 4, 5, 6, 7, 8, 9, 10, 11, 12, 13, 14, 15, 16, 17, 18, 19, 20, 21, 22, 23, 24, 25, 26, 27, 28, 29, 30, 31, 32, 33] (by decide +kernel) (by decide +kernel)
set_option maxRecDepth 20000 in
theorem gX4_countFrom_X4_countFrom : GoodIn wsX4_countFrom (va_wsS RX4 15 yX4_countFrom wsX4_countFrom) := goodIn_app (goodIn_of _ (by decide +kernel)) ggX4_countFrom_X4_countFrom
set_option maxRecDepth 20000 in
theorem ggX4_countFrom_X8_withBit : GoodIn wsX4_countFrom wsX8_withBit := goodIn_r _ [21] (by decide +kernel) (by decide +kernel)
set_option maxRecDepth 20000 in
theorem gX4_countFrom_X8_withBit_n39 : GoodIn wsX4_countFrom (wsX8_withBit) := ggX4_countFrom_X8_withBit
theorem dX4_countFrom_0 : decode cX4_countFrom 0 = .ok (.iload_n 2, 1) := by decide +kernel
theorem dX4_countFrom_1 : decode cX4_countFrom 1 = .ok (.invokestatic 29, 3) := by decide +kernel
theorem dX4_countFrom_4 : decode cX4_countFrom 4 = .ok (.ifCond .ne 5, 3) := by decide +kernel
theorem dX4_countFrom_7 : decode cX4_countFrom 7 = .ok (.iconst 1, 1) := by decide +kernel
theorem dX4_countFrom_8 : decode cX4_countFrom 8 = .ok (.ireturn, 1) := by decide +kernel
theorem dX4_countFrom_9 : decode cX4_countFrom 9 = .ok (.aload_n 0, 1) := by decide +kernel
theorem dX4_countFrom_10 : decode cX4_countFrom 10 = .ok (.iload_n 2, 1) := by decide +kernel
theorem dX4_countFrom_11 : decode cX4_countFrom 11 = .ok (.invokevirtual 33, 3) := by decide +kernel
theorem dX4_countFrom_14 : decode cX4_countFrom 14 = .ok (.ifCond .ne 15, 3) := by decide +kernel
theorem dX4_countFrom_17 : decode cX4_countFrom 17 = .ok (.aload_n 0, 1) := by decide +kernel
theorem dX4_countFrom_18 : decode cX4_countFrom 18 = .ok (.aload_n 1, 1) := by decide +kernel
theorem dX4_countFrom_19 : decode cX4_countFrom 19 = .ok (.iload_n 2, 1) := by decide +kernel
theorem dX4_countFrom_20 : decode cX4_countFrom 20 = .ok (.iconst 1, 1) := by decide +kernel
theorem dX4_countFrom_21 : decode cX4_countFrom 21 = .ok (.iadd, 1) := by decide +kernel
theorem dX4_countFrom_22 : decode cX4_countFrom 22 = .ok (.iload_n 3, 1) := by decide +kernel
theorem dX4_countFrom_23 : decode cX4_countFrom 23 = .ok (.iload 4, 2) := by decide +kernel
theorem dX4_countFrom_25 : decode cX4_countFrom 25 = .ok (.invokestatic 15, 3) := by decide +kernel
theorem dX4_countFrom_28 : decode cX4_countFrom 28 = .ok (.ireturn, 1) := by decide +kernel
theorem dX4_countFrom_29 : decode cX4_countFrom 29 = .ok (.iconst 0, 1) := by decide +kernel
theorem dX4_countFrom_30 : decode cX4_countFrom 30 = .ok (.istore 5, 2) := by decide +kernel
theorem dX4_countFrom_32 : decode cX4_countFrom 32 = .ok (.iconst 0, 1) := by decide +kernel
theorem dX4_countFrom_33 : decode cX4_countFrom 33 = .ok (.istore 6, 2) := by decide +kernel
theorem dX4_countFrom_35 : decode cX4_countFrom 35 = .ok (.iload 6, 2) := by decide +kernel
theorem dX4_countFrom_37 : decode cX4_countFrom 37 = .ok (.iload_n 3, 1) := by decide +kernel
theorem dX4_countFrom_38 : decode cX4_countFrom 38 = .ok (.if_icmp .gt 109, 3) := by decide +kernel
theorem dX4_countFrom_41 : decode cX4_countFrom 41 = .ok (.iload 6, 2) := by decide +kernel
theorem dX4_countFrom_43 : decode cX4_countFrom 43 = .ok (.iload 4, 2) := by decide +kernel
theorem dX4_countFrom_45 : decode cX4_countFrom 45 = .ok (.if_icmp .ge 102, 3) := by decide +kernel
theorem dX4_countFrom_48 : decode cX4_countFrom 48 = .ok (.iload 6, 2) := by decide +kernel
theorem dX4_countFrom_50 : decode cX4_countFrom 50 = .ok (.bipush 8, 2) := by decide +kernel
theorem dX4_countFrom_52 : decode cX4_countFrom 52 = .ok (.if_icmp .ge 95, 3) := by decide +kernel
theorem dX4_countFrom_55 : decode cX4_countFrom 55 = .ok (.aload_n 1, 1) := by decide +kernel
theorem dX4_countFrom_56 : decode cX4_countFrom 56 = .ok (.iload 6, 2) := by decide +kernel
theorem dX4_countFrom_58 : decode cX4_countFrom 58 = .ok (.iaload, 1) := by decide +kernel
theorem dX4_countFrom_59 : decode cX4_countFrom 59 = .ok (.aload_n 0, 1) := by decide +kernel
theorem dX4_countFrom_60 : decode cX4_countFrom 60 = .ok (.getfield 36, 3) := by decide +kernel
theorem dX4_countFrom_63 : decode cX4_countFrom 63 = .ok (.iload_n 2, 1) := by decide +kernel
theorem dX4_countFrom_64 : decode cX4_countFrom 64 = .ok (.iaload, 1) := by decide +kernel
theorem dX4_countFrom_65 : decode cX4_countFrom 65 = .ok (.iand, 1) := by decide +kernel
theorem dX4_countFrom_66 : decode cX4_countFrom 66 = .ok (.ifCond .eq 6, 3) := by decide +kernel
theorem dX4_countFrom_69 : decode cX4_countFrom 69 = .ok (.goto 72, 3) := by decide +kernel
theorem dX4_countFrom_72 : decode cX4_countFrom 72 = .ok (.aload_n 1, 1) := by decide +kernel
theorem dX4_countFrom_73 : decode cX4_countFrom 73 = .ok (.iload 6, 2) := by decide +kernel
theorem dX4_countFrom_75 : decode cX4_countFrom 75 = .ok (.aload_n 1, 1) := by decide +kernel
theorem dX4_countFrom_76 : decode cX4_countFrom 76 = .ok (.iload 6, 2) := by decide +kernel
theorem dX4_countFrom_78 : decode cX4_countFrom 78 = .ok (.iaload, 1) := by decide +kernel
theorem dX4_countFrom_79 : decode cX4_countFrom 79 = .ok (.iload_n 2, 1) := by decide +kernel
theorem dX4_countFrom_80 : decode cX4_countFrom 80 = .ok (.iconst 1, 1) := by decide +kernel
theorem dX4_countFrom_81 : decode cX4_countFrom 81 = .ok (.invokestatic 39, 3) := by decide +kernel
theorem dX4_countFrom_84 : decode cX4_countFrom 84 = .ok (.iastore, 1) := by decide +kernel
theorem dX4_countFrom_85 : decode cX4_countFrom 85 = .ok (.aload_n 0, 1) := by decide +kernel
theorem dX4_countFrom_86 : decode cX4_countFrom 86 = .ok (.aload_n 1, 1) := by decide +kernel
theorem dX4_countFrom_87 : decode cX4_countFrom 87 = .ok (.iload_n 2, 1) := by decide +kernel
theorem dX4_countFrom_88 : decode cX4_countFrom 88 = .ok (.iconst 1, 1) := by decide +kernel
theorem dX4_countFrom_89 : decode cX4_countFrom 89 = .ok (.iadd, 1) := by decide +kernel
theorem dX4_countFrom_90 : decode cX4_countFrom 90 = .ok (.iload_n 3, 1) := by decide +kernel
theorem dX4_countFrom_91 : decode cX4_countFrom 91 = .ok (.iload 6, 2) := by decide +kernel
theorem dX4_countFrom_93 : decode cX4_countFrom 93 = .ok (.iconst 1, 1) := by decide +kernel
theorem dX4_countFrom_94 : decode cX4_countFrom 94 = .ok (.iadd, 1) := by decide +kernel
theorem dX4_countFrom_95 : decode cX4_countFrom 95 = .ok (.invokestatic 43, 3) := by decide +kernel
theorem dX4_countFrom_98 : decode cX4_countFrom 98 = .ok (.iload 4, 2) := by decide +kernel
theorem dX4_countFrom_100 : decode cX4_countFrom 100 = .ok (.invokestatic 15, 3) := by decide +kernel
theorem dX4_countFrom_103 : decode cX4_countFrom 103 = .ok (.istore 7, 2) := by decide +kernel
theorem dX4_countFrom_105 : decode cX4_countFrom 105 = .ok (.aload_n 1, 1) := by decide +kernel
theorem dX4_countFrom_106 : decode cX4_countFrom 106 = .ok (.iload 6, 2) := by decide +kernel
theorem dX4_countFrom_108 : decode cX4_countFrom 108 = .ok (.aload_n 1, 1) := by decide +kernel
theorem dX4_countFrom_109 : decode cX4_countFrom 109 = .ok (.iload 6, 2) := by decide +kernel
theorem dX4_countFrom_111 : decode cX4_countFrom 111 = .ok (.iaload, 1) := by decide +kernel
theorem dX4_countFrom_112 : decode cX4_countFrom 112 = .ok (.iload_n 2, 1) := by decide +kernel
theorem dX4_countFrom_113 : decode cX4_countFrom 113 = .ok (.iconst 0, 1) := by decide +kernel
theorem dX4_countFrom_114 : decode cX4_countFrom 114 = .ok (.invokestatic 39, 3) := by decide +kernel
theorem dX4_countFrom_117 : decode cX4_countFrom 117 = .ok (.iastore, 1) := by decide +kernel
theorem dX4_countFrom_118 : decode cX4_countFrom 118 = .ok (.iload 5, 2) := by decide +kernel
theorem dX4_countFrom_120 : decode cX4_countFrom 120 = .ok (.iload 6, 2) := by decide +kernel
theorem dX4_countFrom_122 : decode cX4_countFrom 122 = .ok (.iload_n 3, 1) := by decide +kernel
theorem dX4_countFrom_123 : decode cX4_countFrom 123 = .ok (.if_icmp .ne 13, 3) := by decide +kernel
theorem dX4_countFrom_126 : decode cX4_countFrom 126 = .ok (.iload 4, 2) := by decide +kernel
theorem dX4_countFrom_128 : decode cX4_countFrom 128 = .ok (.iload_n 3, 1) := by decide +kernel
theorem dX4_countFrom_129 : decode cX4_countFrom 129 = .ok (.isub, 1) := by decide +kernel
theorem dX4_countFrom_130 : decode cX4_countFrom 130 = .ok (.iload 7, 2) := by decide +kernel
theorem dX4_countFrom_132 : decode cX4_countFrom 132 = .ok (.imul, 1) := by decide +kernel
theorem dX4_countFrom_133 : decode cX4_countFrom 133 = .ok (.goto 5, 3) := by decide +kernel
theorem dX4_countFrom_136 : decode cX4_countFrom 136 = .ok (.iload 7, 2) := by decide +kernel
theorem dX4_countFrom_138 : decode cX4_countFrom 138 = .ok (.iadd, 1) := by decide +kernel
theorem dX4_countFrom_139 : decode cX4_countFrom 139 = .ok (.istore 5, 2) := by decide +kernel
theorem dX4_countFrom_141 : decode cX4_countFrom 141 = .ok (.iinc 6 1, 3) := by decide +kernel
theorem dX4_countFrom_144 : decode cX4_countFrom 144 = .ok (.goto (-109), 3) := by decide +kernel
theorem dX4_countFrom_147 : decode cX4_countFrom 147 = .ok (.iload 5, 2) := by decide +kernel
theorem dX4_countFrom_149 : decode cX4_countFrom 149 = .ok (.ireturn, 1) := by decide +kernel
theorem dX5_init_0 : decode cX5_init 0 = .ok (.aload_n 0, 1) := by decide +kernel
theorem dX5_init_1 : decode cX5_init 1 = .ok (.invokespecial 3, 3) := by decide +kernel
theorem dX5_init_4 : decode cX5_init 4 = .ok (.aload_n 0, 1) := by decide +kernel
theorem dX5_init_5 : decode cX5_init 5 = .ok (.sipush 201, 3) := by decide +kernel
theorem dX5_init_8 : decode cX5_init 8 = .ok (.newarray .int, 2) := by decide +kernel
theorem dX5_init_10 : decode cX5_init 10 = .ok (.putfield 9, 3) := by decide +kernel
theorem dX5_init_13 : decode cX5_init 13 = .ok (.return_, 1) := by decide +kernel
set_option maxRecDepth 20000 in
theorem ggX5_leastWinningTake_X8_isUpTo : GoodIn wsX5_leastWinningTake wsX8_isUpTo := goodIn_r _ [5] (by decide +kernel) (by decide +kernel)
set_option maxRecDepth 20000 in
theorem gX5_leastWinningTake_X8_isUpTo_n15 : GoodIn wsX5_leastWinningTake (wsX8_isUpTo) := ggX5_leastWinningTake_X8_isUpTo
set_option maxRecDepth 20000 in
theorem ggX5_leastWinningTake_X5_findTake : GoodIn wsX5_leastWinningTake wsX5_findTake := goodIn_r _ [10, 2, 11, 12] (by decide +kernel) (by decide +kernel)
set_option maxRecDepth 20000 in
theorem gX5_leastWinningTake_X5_findTake : GoodIn wsX5_leastWinningTake (wsV RX5 23 RX5 yX5_findTake wsX5_findTake) := goodIn_app (goodIn_of _ (by decide +kernel)) ggX5_leastWinningTake_X5_findTake
theorem dX5_leastWinningTake_0 : decode cX5_leastWinningTake 0 = .ok (.iload_n 1, 1) := by decide +kernel
theorem dX5_leastWinningTake_1 : decode cX5_leastWinningTake 1 = .ok (.sipush 200, 3) := by decide +kernel
theorem dX5_leastWinningTake_4 : decode cX5_leastWinningTake 4 = .ok (.invokestatic 15, 3) := by decide +kernel
theorem dX5_leastWinningTake_7 : decode cX5_leastWinningTake 7 = .ok (.ifCond .ne 6, 3) := by decide +kernel
theorem dX5_leastWinningTake_10 : decode cX5_leastWinningTake 10 = .ok (.bipush (-6), 2) := by decide +kernel
theorem dX5_leastWinningTake_12 : decode cX5_leastWinningTake 12 = .ok (.ireturn, 1) := by decide +kernel
theorem dX5_leastWinningTake_13 : decode cX5_leastWinningTake 13 = .ok (.aload_n 0, 1) := by decide +kernel
theorem dX5_leastWinningTake_14 : decode cX5_leastWinningTake 14 = .ok (.getfield 19, 3) := by decide +kernel
theorem dX5_leastWinningTake_17 : decode cX5_leastWinningTake 17 = .ok (.iload_n 1, 1) := by decide +kernel
theorem dX5_leastWinningTake_18 : decode cX5_leastWinningTake 18 = .ok (.if_icmp .gt 33, 3) := by decide +kernel
theorem dX5_leastWinningTake_21 : decode cX5_leastWinningTake 21 = .ok (.aload_n 0, 1) := by decide +kernel
theorem dX5_leastWinningTake_22 : decode cX5_leastWinningTake 22 = .ok (.getfield 9, 3) := by decide +kernel
theorem dX5_leastWinningTake_25 : decode cX5_leastWinningTake 25 = .ok (.aload_n 0, 1) := by decide +kernel
theorem dX5_leastWinningTake_26 : decode cX5_leastWinningTake 26 = .ok (.getfield 19, 3) := by decide +kernel
theorem dX5_leastWinningTake_29 : decode cX5_leastWinningTake 29 = .ok (.aload_n 0, 1) := by decide +kernel
theorem dX5_leastWinningTake_30 : decode cX5_leastWinningTake 30 = .ok (.aload_n 0, 1) := by decide +kernel
theorem dX5_leastWinningTake_31 : decode cX5_leastWinningTake 31 = .ok (.getfield 19, 3) := by decide +kernel
theorem dX5_leastWinningTake_34 : decode cX5_leastWinningTake 34 = .ok (.invokevirtual 23, 3) := by decide +kernel
theorem dX5_leastWinningTake_37 : decode cX5_leastWinningTake 37 = .ok (.iastore, 1) := by decide +kernel
theorem dX5_leastWinningTake_38 : decode cX5_leastWinningTake 38 = .ok (.aload_n 0, 1) := by decide +kernel
theorem dX5_leastWinningTake_39 : decode cX5_leastWinningTake 39 = .ok (.dup, 1) := by decide +kernel
theorem dX5_leastWinningTake_40 : decode cX5_leastWinningTake 40 = .ok (.getfield 19, 3) := by decide +kernel
theorem dX5_leastWinningTake_43 : decode cX5_leastWinningTake 43 = .ok (.iconst 1, 1) := by decide +kernel
theorem dX5_leastWinningTake_44 : decode cX5_leastWinningTake 44 = .ok (.iadd, 1) := by decide +kernel
theorem dX5_leastWinningTake_45 : decode cX5_leastWinningTake 45 = .ok (.putfield 19, 3) := by decide +kernel
theorem dX5_leastWinningTake_48 : decode cX5_leastWinningTake 48 = .ok (.goto (-35), 3) := by decide +kernel
theorem dX5_leastWinningTake_51 : decode cX5_leastWinningTake 51 = .ok (.aload_n 0, 1) := by decide +kernel
theorem dX5_leastWinningTake_52 : decode cX5_leastWinningTake 52 = .ok (.getfield 9, 3) := by decide +kernel
theorem dX5_leastWinningTake_55 : decode cX5_leastWinningTake 55 = .ok (.iload_n 1, 1) := by decide +kernel
theorem dX5_leastWinningTake_56 : decode cX5_leastWinningTake 56 = .ok (.iaload, 1) := by decide +kernel
theorem dX5_leastWinningTake_57 : decode cX5_leastWinningTake 57 = .ok (.ireturn, 1) := by decide +kernel
theorem dX5_findTake_0 : decode cX5_findTake 0 = .ok (.iconst 1, 1) := by decide +kernel
theorem dX5_findTake_1 : decode cX5_findTake 1 = .ok (.istore_n 2, 1) := by decide +kernel
theorem dX5_findTake_2 : decode cX5_findTake 2 = .ok (.iload_n 2, 1) := by decide +kernel
theorem dX5_findTake_3 : decode cX5_findTake 3 = .ok (.iload_n 2, 1) := by decide +kernel
theorem dX5_findTake_4 : decode cX5_findTake 4 = .ok (.imul, 1) := by decide +kernel
theorem dX5_findTake_5 : decode cX5_findTake 5 = .ok (.iload_n 1, 1) := by decide +kernel
theorem dX5_findTake_6 : decode cX5_findTake 6 = .ok (.if_icmp .gt 28, 3) := by decide +kernel
theorem dX5_findTake_9 : decode cX5_findTake 9 = .ok (.iload_n 2, 1) := by decide +kernel
theorem dX5_findTake_10 : decode cX5_findTake 10 = .ok (.iload_n 2, 1) := by decide +kernel
theorem dX5_findTake_11 : decode cX5_findTake 11 = .ok (.imul, 1) := by decide +kernel
theorem dX5_findTake_12 : decode cX5_findTake 12 = .ok (.istore_n 3, 1) := by decide +kernel
theorem dX5_findTake_13 : decode cX5_findTake 13 = .ok (.aload_n 0, 1) := by decide +kernel
theorem dX5_findTake_14 : decode cX5_findTake 14 = .ok (.getfield 9, 3) := by decide +kernel
theorem dX5_findTake_17 : decode cX5_findTake 17 = .ok (.iload_n 1, 1) := by decide +kernel
theorem dX5_findTake_18 : decode cX5_findTake 18 = .ok (.iload_n 3, 1) := by decide +kernel
theorem dX5_findTake_19 : decode cX5_findTake 19 = .ok (.isub, 1) := by decide +kernel
theorem dX5_findTake_20 : decode cX5_findTake 20 = .ok (.iaload, 1) := by decide +kernel
theorem dX5_findTake_21 : decode cX5_findTake 21 = .ok (.bipush (-6), 2) := by decide +kernel
theorem dX5_findTake_23 : decode cX5_findTake 23 = .ok (.if_icmp .ne 5, 3) := by decide +kernel
theorem dX5_findTake_26 : decode cX5_findTake 26 = .ok (.iload_n 3, 1) := by decide +kernel
theorem dX5_findTake_27 : decode cX5_findTake 27 = .ok (.ireturn, 1) := by decide +kernel
theorem dX5_findTake_28 : decode cX5_findTake 28 = .ok (.iinc 2 1, 3) := by decide +kernel
theorem dX5_findTake_31 : decode cX5_findTake 31 = .ok (.goto (-29), 3) := by decide +kernel
theorem dX5_findTake_34 : decode cX5_findTake 34 = .ok (.bipush (-6), 2) := by decide +kernel
theorem dX5_findTake_36 : decode cX5_findTake 36 = .ok (.ireturn, 1) := by decide +kernel
set_option maxRecDepth 20000 in
theorem ggX6_init_X7_init : GoodIn wsX6_init wsX7_init := goodIn_r _ [9, 10, 2, 3, 11, 12, 13, 14, 15, 16, 17, 18, 19, 20, 21, 22, 23, 24, 25, 26, 27] (by decide +kernel) (by decide +kernel)
set_option maxRecDepth 20000 in
theorem gX6_init_X7_init_n11 : GoodIn wsX6_init (wsX7_init) := ggX6_init_X7_init
theorem dX6_init_0 : decode cX6_init 0 = .ok (.aload_n 0, 1) := by decide +kernel
theorem dX6_init_1 : decode cX6_init 1 = .ok (.invokespecial 3, 3) := by decide +kernel
theorem dX6_init_4 : decode cX6_init 4 = .ok (.aload_n 0, 1) := by decide +kernel
theorem dX6_init_5 : decode cX6_init 5 = .ok (.new 9, 3) := by decide +kernel
theorem dX6_init_8 : decode cX6_init 8 = .ok (.dup, 1) := by decide +kernel
theorem dX6_init_9 : decode cX6_init 9 = .ok (.invokespecial 11, 3) := by decide +kernel
theorem dX6_init_12 : decode cX6_init 12 = .ok (.putfield 12, 3) := by decide +kernel
theorem dX6_init_15 : decode cX6_init 15 = .ok (.return_, 1) := by decide +kernel
set_option maxRecDepth 20000 in
theorem ggX6_tryAll_X3_read : GoodIn wsX6_tryAll wsX3_read := goodIn_r _ [5, 6, 7, 8, 9, 10, 4, 11, 12, 13, 14, 15, 16, 17, 18, 19, 20, 21, 22, 23, 24, 25, 26, 27, 28, 29, 120, 121, 122, 123, 124, 125] (by decide +kernel) (by decide +kernel)
set_option maxRecDepth 20000 in
theorem gX6_tryAll_X3_read : GoodIn wsX6_tryAll (wsV RX6 18 RX3 yX3_read wsX3_read) := goodIn_app (goodIn_of _ (by decide +kernel)) ggX6_tryAll_X3_read
set_option maxRecDepth 20000 in
theorem ggX6_tryAll_X6_startFrom : GoodIn wsX6_tryAll wsX6_startFrom := goodIn_r _ [34, 35, 36, 37, 38, 39, 40, 41, 42, 43, 44, 45, 46, 47, 48, 49, 50, 51, 52, 53, 54, 55, 126, 127, 128, 129, 130, 131, 132, 133, 134, 135, 136, 137, 138, 139, 140, 141] (by decide +kernel) (by decide +kernel)
set_option maxRecDepth 20000 in
theorem gX6_tryAll_X6_startFrom : GoodIn wsX6_tryAll (wsV RX6 24 RX6 yX6_startFrom wsX6_startFrom) := goodIn_app (goodIn_of _ (by decide +kernel)) ggX6_tryAll_X6_startFrom
set_option maxRecDepth 20000 in
theorem ggX6_tryAll_X6_tryAct : GoodIn wsX6_tryAll wsX6_tryAct := goodIn_r _ [59, 35, 37, 36, 38, 60, 61, 62, 42, 63, 50, 47, 52, 64, 65, 66, 67, 48, 44, 51, 68, 69, 70, 71, 72, 13, 73, 74, 75, 76, 77, 49, 78, 79, 80, 81, 82, 83, 84, 85, 86, 87, 88, 89, 90, 91, 92, 93, 94, 95, 96, 97, 98, 99, 100, 101, 102, 103, 104, 105, 106, 107, 108, 109, 110, 111, 112, 45, 113, 114, 115, 116, 117, 118, 119, 126, 127, 128, 129, 130, 131, 132, 133, 134, 135, 136, 137, 138, 139, 140, 141] (by decide +kernel) (by decide +kernel)
set_option maxRecDepth 20000 in
theorem gX6_tryAll_X6_tryAct : GoodIn wsX6_tryAll (wsV RX6 42 RX6 yX6_tryAct wsX6_tryAct) := goodIn_app (goodIn_of _ (by decide +kernel)) ggX6_tryAll_X6_tryAct
theorem dX6_tryAll_0 : decode cX6_tryAll 0 = .ok (.aload_n 1, 1) := by decide +kernel
theorem dX6_tryAll_1 : decode cX6_tryAll 1 = .ok (.invokevirtual 18, 3) := by decide +kernel
theorem dX6_tryAll_4 : decode cX6_tryAll 4 = .ok (.bipush (-6), 2) := by decide +kernel
theorem dX6_tryAll_6 : decode cX6_tryAll 6 = .ok (.if_icmp .eq 6, 3) := by decide +kernel
theorem dX6_tryAll_9 : decode cX6_tryAll 9 = .ok (.bipush (-5), 2) := by decide +kernel
theorem dX6_tryAll_11 : decode cX6_tryAll 11 = .ok (.ireturn, 1) := by decide +kernel
theorem dX6_tryAll_12 : decode cX6_tryAll 12 = .ok (.aload_n 0, 1) := by decide +kernel
theorem dX6_tryAll_13 : decode cX6_tryAll 13 = .ok (.aload_n 2, 1) := by decide +kernel
theorem dX6_tryAll_14 : decode cX6_tryAll 14 = .ok (.invokevirtual 24, 3) := by decide +kernel
theorem dX6_tryAll_17 : decode cX6_tryAll 17 = .ok (.iconst 0, 1) := by decide +kernel
theorem dX6_tryAll_18 : decode cX6_tryAll 18 = .ok (.istore_n 3, 1) := by decide +kernel
theorem dX6_tryAll_19 : decode cX6_tryAll 19 = .ok (.iconst 0, 1) := by decide +kernel
theorem dX6_tryAll_20 : decode cX6_tryAll 20 = .ok (.istore 4, 2) := by decide +kernel
theorem dX6_tryAll_22 : decode cX6_tryAll 22 = .ok (.iload 4, 2) := by decide +kernel
theorem dX6_tryAll_24 : decode cX6_tryAll 24 = .ok (.aload_n 1, 1) := by decide +kernel
theorem dX6_tryAll_25 : decode cX6_tryAll 25 = .ok (.getfield 28, 3) := by decide +kernel
theorem dX6_tryAll_28 : decode cX6_tryAll 28 = .ok (.if_icmp .ge 46, 3) := by decide +kernel
theorem dX6_tryAll_31 : decode cX6_tryAll 31 = .ok (.iload 4, 2) := by decide +kernel
theorem dX6_tryAll_33 : decode cX6_tryAll 33 = .ok (.bipush 60, 2) := by decide +kernel
theorem dX6_tryAll_35 : decode cX6_tryAll 35 = .ok (.if_icmp .ge 39, 3) := by decide +kernel
theorem dX6_tryAll_38 : decode cX6_tryAll 38 = .ok (.iload_n 3, 1) := by decide +kernel
theorem dX6_tryAll_39 : decode cX6_tryAll 39 = .ok (.ifCond .ne 35, 3) := by decide +kernel
theorem dX6_tryAll_42 : decode cX6_tryAll 42 = .ok (.aload_n 0, 1) := by decide +kernel
theorem dX6_tryAll_43 : decode cX6_tryAll 43 = .ok (.aload_n 1, 1) := by decide +kernel
theorem dX6_tryAll_44 : decode cX6_tryAll 44 = .ok (.getfield 32, 3) := by decide +kernel
theorem dX6_tryAll_47 : decode cX6_tryAll 47 = .ok (.iload 4, 2) := by decide +kernel
theorem dX6_tryAll_49 : decode cX6_tryAll 49 = .ok (.iaload, 1) := by decide +kernel
theorem dX6_tryAll_50 : decode cX6_tryAll 50 = .ok (.aload_n 1, 1) := by decide +kernel
theorem dX6_tryAll_51 : decode cX6_tryAll 51 = .ok (.getfield 36, 3) := by decide +kernel
theorem dX6_tryAll_54 : decode cX6_tryAll 54 = .ok (.iload 4, 2) := by decide +kernel
theorem dX6_tryAll_56 : decode cX6_tryAll 56 = .ok (.iaload, 1) := by decide +kernel
theorem dX6_tryAll_57 : decode cX6_tryAll 57 = .ok (.aload_n 1, 1) := by decide +kernel
theorem dX6_tryAll_58 : decode cX6_tryAll 58 = .ok (.getfield 39, 3) := by decide +kernel
theorem dX6_tryAll_61 : decode cX6_tryAll 61 = .ok (.iload 4, 2) := by decide +kernel
theorem dX6_tryAll_63 : decode cX6_tryAll 63 = .ok (.iaload, 1) := by decide +kernel
theorem dX6_tryAll_64 : decode cX6_tryAll 64 = .ok (.invokevirtual 42, 3) := by decide +kernel
theorem dX6_tryAll_67 : decode cX6_tryAll 67 = .ok (.istore_n 3, 1) := by decide +kernel
theorem dX6_tryAll_68 : decode cX6_tryAll 68 = .ok (.iinc 4 1, 3) := by decide +kernel
theorem dX6_tryAll_71 : decode cX6_tryAll 71 = .ok (.goto (-49), 3) := by decide +kernel
theorem dX6_tryAll_74 : decode cX6_tryAll 74 = .ok (.iload_n 3, 1) := by decide +kernel
theorem dX6_tryAll_75 : decode cX6_tryAll 75 = .ok (.ireturn, 1) := by decide +kernel
set_option maxRecDepth 20000 in
theorem ggX6_drawYear_X6_startFrom : GoodIn wsX6_drawYear wsX6_startFrom := goodIn_r _ [10, 11, 12, 13, 14, 15, 16, 17, 18, 19, 20, 21, 22, 23, 24, 25, 26, 27, 28, 29, 30, 31, 94, 95, 96, 97, 98, 99, 100, 101, 102, 103, 104, 105, 106, 107, 108, 109] (by decide +kernel) (by decide +kernel)
set_option maxRecDepth 20000 in
theorem gX6_drawYear_X6_startFrom : GoodIn wsX6_drawYear (wsV RX6 24 RX6 yX6_startFrom wsX6_startFrom) := goodIn_app (goodIn_of _ (by decide +kernel)) ggX6_drawYear_X6_startFrom
set_option maxRecDepth 20000 in
theorem ggX6_drawYear_X6_tryAct : GoodIn wsX6_drawYear wsX6_tryAct := goodIn_r _ [35, 11, 13, 12, 14, 36, 37, 38, 18, 39, 26, 23, 28, 40, 41, 42, 43, 24, 20, 27, 44, 45, 46, 47, 48, 49, 50, 51, 52, 53, 54, 25, 55, 56, 57, 58, 59, 60, 61, 62, 63, 64, 65, 66, 67, 68, 69, 70, 71, 3, 4, 5, 72, 73, 74, 75, 76, 77, 78, 79, 80, 81, 82, 83, 84, 85, 86, 21, 87, 88, 89, 90, 91, 92, 93, 94, 95, 96, 97, 98, 99, 100, 101, 102, 103, 104, 105, 106, 107, 108, 109] (by decide +kernel) (by decide +kernel)
set_option maxRecDepth 20000 in
theorem gX6_drawYear_X6_tryAct : GoodIn wsX6_drawYear (wsV RX6 42 RX6 yX6_tryAct wsX6_tryAct) := goodIn_app (goodIn_of _ (by decide +kernel)) ggX6_drawYear_X6_tryAct
theorem dX6_drawYear_0 : decode cX6_drawYear 0 = .ok (.aload_n 0, 1) := by decide +kernel
theorem dX6_drawYear_1 : decode cX6_drawYear 1 = .ok (.aload_n 1, 1) := by decide +kernel
theorem dX6_drawYear_2 : decode cX6_drawYear 2 = .ok (.invokevirtual 24, 3) := by decide +kernel
theorem dX6_drawYear_5 : decode cX6_drawYear 5 = .ok (.iload_n 2, 1) := by decide +kernel
theorem dX6_drawYear_6 : decode cX6_drawYear 6 = .ok (.istore 4, 2) := by decide +kernel
theorem dX6_drawYear_8 : decode cX6_drawYear 8 = .ok (.iconst 0, 1) := by decide +kernel
theorem dX6_drawYear_9 : decode cX6_drawYear 9 = .ok (.istore 5, 2) := by decide +kernel
theorem dX6_drawYear_11 : decode cX6_drawYear 11 = .ok (.iload 5, 2) := by decide +kernel
theorem dX6_drawYear_13 : decode cX6_drawYear 13 = .ok (.iload_n 3, 1) := by decide +kernel
theorem dX6_drawYear_14 : decode cX6_drawYear 14 = .ok (.if_icmp .ge 56, 3) := by decide +kernel
theorem dX6_drawYear_17 : decode cX6_drawYear 17 = .ok (.bipush 75, 2) := by decide +kernel
theorem dX6_drawYear_19 : decode cX6_drawYear 19 = .ok (.iload 4, 2) := by decide +kernel
theorem dX6_drawYear_21 : decode cX6_drawYear 21 = .ok (.imul, 1) := by decide +kernel
theorem dX6_drawYear_22 : decode cX6_drawYear 22 = .ok (.bipush 74, 2) := by decide +kernel
theorem dX6_drawYear_24 : decode cX6_drawYear 24 = .ok (.iadd, 1) := by decide +kernel
theorem dX6_drawYear_25 : decode cX6_drawYear 25 = .ok (.ldc 46, 2) := by decide +kernel
theorem dX6_drawYear_27 : decode cX6_drawYear 27 = .ok (.irem, 1) := by decide +kernel
theorem dX6_drawYear_28 : decode cX6_drawYear 28 = .ok (.istore 4, 2) := by decide +kernel
theorem dX6_drawYear_30 : decode cX6_drawYear 30 = .ok (.iload 4, 2) := by decide +kernel
theorem dX6_drawYear_32 : decode cX6_drawYear 32 = .ok (.bipush 7, 2) := by decide +kernel
theorem dX6_drawYear_34 : decode cX6_drawYear 34 = .ok (.idiv, 1) := by decide +kernel
theorem dX6_drawYear_35 : decode cX6_drawYear 35 = .ok (.bipush 8, 2) := by decide +kernel
theorem dX6_drawYear_37 : decode cX6_drawYear 37 = .ok (.irem, 1) := by decide +kernel
theorem dX6_drawYear_38 : decode cX6_drawYear 38 = .ok (.iconst 5, 1) := by decide +kernel
theorem dX6_drawYear_39 : decode cX6_drawYear 39 = .ok (.invokestatic 47, 3) := by decide +kernel
theorem dX6_drawYear_42 : decode cX6_drawYear 42 = .ok (.istore 6, 2) := by decide +kernel
theorem dX6_drawYear_44 : decode cX6_drawYear 44 = .ok (.aload_n 0, 1) := by decide +kernel
theorem dX6_drawYear_45 : decode cX6_drawYear 45 = .ok (.iload 6, 2) := by decide +kernel
theorem dX6_drawYear_47 : decode cX6_drawYear 47 = .ok (.iload 4, 2) := by decide +kernel
theorem dX6_drawYear_49 : decode cX6_drawYear 49 = .ok (.bipush 7, 2) := by decide +kernel
theorem dX6_drawYear_51 : decode cX6_drawYear 51 = .ok (.irem, 1) := by decide +kernel
theorem dX6_drawYear_52 : decode cX6_drawYear 52 = .ok (.iload 4, 2) := by decide +kernel
theorem dX6_drawYear_54 : decode cX6_drawYear 54 = .ok (.bipush 56, 2) := by decide +kernel
theorem dX6_drawYear_56 : decode cX6_drawYear 56 = .ok (.idiv, 1) := by decide +kernel
theorem dX6_drawYear_57 : decode cX6_drawYear 57 = .ok (.bipush 8, 2) := by decide +kernel
theorem dX6_drawYear_59 : decode cX6_drawYear 59 = .ok (.irem, 1) := by decide +kernel
theorem dX6_drawYear_60 : decode cX6_drawYear 60 = .ok (.invokevirtual 42, 3) := by decide +kernel
theorem dX6_drawYear_63 : decode cX6_drawYear 63 = .ok (.pop, 1) := by decide +kernel
theorem dX6_drawYear_64 : decode cX6_drawYear 64 = .ok (.iinc 5 1, 3) := by decide +kernel
theorem dX6_drawYear_67 : decode cX6_drawYear 67 = .ok (.goto (-56), 3) := by decide +kernel
theorem dX6_drawYear_70 : decode cX6_drawYear 70 = .ok (.return_, 1) := by decide +kernel
set_option maxRecDepth 20000 in
theorem ggX6_startFrom_X7_becomeLike : GoodIn wsX6_startFrom wsX7_becomeLike := goodIn_r _ [9, 10, 11, 12, 13, 14, 15, 16, 17, 18, 19, 20, 21, 26, 27, 28, 29, 30, 31, 32, 33, 34, 35, 36, 37] (by decide +kernel) (by decide +kernel)
set_option maxRecDepth 20000 in
theorem gX6_startFrom_X7_becomeLike : GoodIn wsX6_startFrom (wsV RX6 53 RX7 yX7_becomeLike wsX7_becomeLike) := goodIn_app (goodIn_of _ (by decide +kernel)) ggX6_startFrom_X7_becomeLike
theorem dX6_startFrom_0 : decode cX6_startFrom 0 = .ok (.aload_n 0, 1) := by decide +kernel
theorem dX6_startFrom_1 : decode cX6_startFrom 1 = .ok (.getfield 12, 3) := by decide +kernel
theorem dX6_startFrom_4 : decode cX6_startFrom 4 = .ok (.aload_n 1, 1) := by decide +kernel
theorem dX6_startFrom_5 : decode cX6_startFrom 5 = .ok (.invokevirtual 53, 3) := by decide +kernel
theorem dX6_startFrom_8 : decode cX6_startFrom 8 = .ok (.aload_n 0, 1) := by decide +kernel
theorem dX6_startFrom_9 : decode cX6_startFrom 9 = .ok (.iconst 0, 1) := by decide +kernel
theorem dX6_startFrom_10 : decode cX6_startFrom 10 = .ok (.putfield 56, 3) := by decide +kernel
theorem dX6_startFrom_13 : decode cX6_startFrom 13 = .ok (.aload_n 0, 1) := by decide +kernel
theorem dX6_startFrom_14 : decode cX6_startFrom 14 = .ok (.bipush (-6), 2) := by decide +kernel
theorem dX6_startFrom_16 : decode cX6_startFrom 16 = .ok (.putfield 57, 3) := by decide +kernel
theorem dX6_startFrom_19 : decode cX6_startFrom 19 = .ok (.aload_n 0, 1) := by decide +kernel
theorem dX6_startFrom_20 : decode cX6_startFrom 20 = .ok (.bipush (-6), 2) := by decide +kernel
theorem dX6_startFrom_22 : decode cX6_startFrom 22 = .ok (.putfield 60, 3) := by decide +kernel
theorem dX6_startFrom_25 : decode cX6_startFrom 25 = .ok (.return_, 1) := by decide +kernel
set_option maxRecDepth 20000 in
theorem ggX6_tryAct_X7_reasonAgainst : GoodIn wsX6_tryAct wsX7_reasonAgainst := goodIn_r _ [9, 10, 11, 12, 13, 14, 15, 8, 16, 17, 18, 19, 20, 21, 22, 23, 24, 25, 26, 79, 80, 81, 82, 83, 84, 85, 86, 87, 88, 89, 90] (by decide +kernel) (by decide +kernel)
set_option maxRecDepth 20000 in
theorem gX6_tryAct_X7_reasonAgainst : GoodIn wsX6_tryAct (wsV RX6 63 RX7 yX7_reasonAgainst wsX7_reasonAgainst) := goodIn_app (goodIn_of _ (by decide +kernel)) ggX6_tryAct_X7_reasonAgainst
set_option maxRecDepth 20000 in
theorem ggX6_tryAct_X7_carryOut : GoodIn wsX6_tryAct wsX7_carryOut := goodIn_r _ [30, 17, 19, 10, 31, 12, 32, 25, 33, 34, 35, 36, 8, 37, 18, 20, 21, 22, 23, 11, 38, 39, 40, 41, 42, 43, 44, 45, 46, 47, 48, 49, 50, 51, 52, 53, 54, 55, 56, 57, 58, 59, 60, 61, 62, 63, 64, 65, 66, 67, 68, 69, 70, 71, 24, 26, 72, 73, 74, 79, 80, 81, 82, 83, 84, 85, 86, 87, 88, 89, 90] (by decide +kernel) (by decide +kernel)
set_option maxRecDepth 20000 in
theorem gX6_tryAct_X7_carryOut : GoodIn wsX6_tryAct (wsV RX6 69 RX7 yX7_carryOut wsX7_carryOut) := goodIn_app (goodIn_of _ (by decide +kernel)) ggX6_tryAct_X7_carryOut
theorem dX6_tryAct_0 : decode cX6_tryAct 0 = .ok (.aload_n 0, 1) := by decide +kernel
theorem dX6_tryAct_1 : decode cX6_tryAct 1 = .ok (.getfield 12, 3) := by decide +kernel
theorem dX6_tryAct_4 : decode cX6_tryAct 4 = .ok (.iload_n 1, 1) := by decide +kernel
theorem dX6_tryAct_5 : decode cX6_tryAct 5 = .ok (.iload_n 2, 1) := by decide +kernel
theorem dX6_tryAct_6 : decode cX6_tryAct 6 = .ok (.iload_n 3, 1) := by decide +kernel
theorem dX6_tryAct_7 : decode cX6_tryAct 7 = .ok (.invokevirtual 63, 3) := by decide +kernel
theorem dX6_tryAct_10 : decode cX6_tryAct 10 = .ok (.istore 4, 2) := by decide +kernel
theorem dX6_tryAct_12 : decode cX6_tryAct 12 = .ok (.iload 4, 2) := by decide +kernel
theorem dX6_tryAct_14 : decode cX6_tryAct 14 = .ok (.ifCond .eq 6, 3) := by decide +kernel
theorem dX6_tryAct_17 : decode cX6_tryAct 17 = .ok (.iload 4, 2) := by decide +kernel
theorem dX6_tryAct_19 : decode cX6_tryAct 19 = .ok (.ireturn, 1) := by decide +kernel
theorem dX6_tryAct_20 : decode cX6_tryAct 20 = .ok (.aload_n 0, 1) := by decide +kernel
theorem dX6_tryAct_21 : decode cX6_tryAct 21 = .ok (.getfield 12, 3) := by decide +kernel
theorem dX6_tryAct_24 : decode cX6_tryAct 24 = .ok (.getfield 66, 3) := by decide +kernel
theorem dX6_tryAct_27 : decode cX6_tryAct 27 = .ok (.istore 5, 2) := by decide +kernel
theorem dX6_tryAct_29 : decode cX6_tryAct 29 = .ok (.aload_n 0, 1) := by decide +kernel
theorem dX6_tryAct_30 : decode cX6_tryAct 30 = .ok (.getfield 12, 3) := by decide +kernel
theorem dX6_tryAct_33 : decode cX6_tryAct 33 = .ok (.iload_n 1, 1) := by decide +kernel
theorem dX6_tryAct_34 : decode cX6_tryAct 34 = .ok (.iload_n 2, 1) := by decide +kernel
theorem dX6_tryAct_35 : decode cX6_tryAct 35 = .ok (.iload_n 3, 1) := by decide +kernel
theorem dX6_tryAct_36 : decode cX6_tryAct 36 = .ok (.invokevirtual 69, 3) := by decide +kernel
theorem dX6_tryAct_39 : decode cX6_tryAct 39 = .ok (.aload_n 0, 1) := by decide +kernel
theorem dX6_tryAct_40 : decode cX6_tryAct 40 = .ok (.getfield 57, 3) := by decide +kernel
theorem dX6_tryAct_43 : decode cX6_tryAct 43 = .ok (.bipush (-6), 2) := by decide +kernel
theorem dX6_tryAct_45 : decode cX6_tryAct 45 = .ok (.if_icmp .ne 31, 3) := by decide +kernel
theorem dX6_tryAct_48 : decode cX6_tryAct 48 = .ok (.aload_n 0, 1) := by decide +kernel
theorem dX6_tryAct_49 : decode cX6_tryAct 49 = .ok (.getfield 12, 3) := by decide +kernel
theorem dX6_tryAct_52 : decode cX6_tryAct 52 = .ok (.getfield 66, 3) := by decide +kernel
theorem dX6_tryAct_55 : decode cX6_tryAct 55 = .ok (.iload 5, 2) := by decide +kernel
theorem dX6_tryAct_57 : decode cX6_tryAct 57 = .ok (.iconst (-1), 1) := by decide +kernel
theorem dX6_tryAct_58 : decode cX6_tryAct 58 = .ok (.ixor, 1) := by decide +kernel
theorem dX6_tryAct_59 : decode cX6_tryAct 59 = .ok (.iand, 1) := by decide +kernel
theorem dX6_tryAct_60 : decode cX6_tryAct 60 = .ok (.ifCond .eq 16, 3) := by decide +kernel
theorem dX6_tryAct_63 : decode cX6_tryAct 63 = .ok (.aload_n 0, 1) := by decide +kernel
theorem dX6_tryAct_64 : decode cX6_tryAct 64 = .ok (.aload_n 0, 1) := by decide +kernel
theorem dX6_tryAct_65 : decode cX6_tryAct 65 = .ok (.getfield 56, 3) := by decide +kernel
theorem dX6_tryAct_68 : decode cX6_tryAct 68 = .ok (.putfield 57, 3) := by decide +kernel
theorem dX6_tryAct_71 : decode cX6_tryAct 71 = .ok (.aload_n 0, 1) := by decide +kernel
theorem dX6_tryAct_72 : decode cX6_tryAct 72 = .ok (.iload_n 3, 1) := by decide +kernel
theorem dX6_tryAct_73 : decode cX6_tryAct 73 = .ok (.putfield 60, 3) := by decide +kernel
theorem dX6_tryAct_76 : decode cX6_tryAct 76 = .ok (.aload_n 0, 1) := by decide +kernel
theorem dX6_tryAct_77 : decode cX6_tryAct 77 = .ok (.dup, 1) := by decide +kernel
theorem dX6_tryAct_78 : decode cX6_tryAct 78 = .ok (.getfield 56, 3) := by decide +kernel
theorem dX6_tryAct_81 : decode cX6_tryAct 81 = .ok (.iconst 1, 1) := by decide +kernel
theorem dX6_tryAct_82 : decode cX6_tryAct 82 = .ok (.iadd, 1) := by decide +kernel
theorem dX6_tryAct_83 : decode cX6_tryAct 83 = .ok (.putfield 56, 3) := by decide +kernel
theorem dX6_tryAct_86 : decode cX6_tryAct 86 = .ok (.iconst 0, 1) := by decide +kernel
theorem dX6_tryAct_87 : decode cX6_tryAct 87 = .ok (.ireturn, 1) := by decide +kernel
theorem dX7_init_0 : decode cX7_init 0 = .ok (.aload_n 0, 1) := by decide +kernel
theorem dX7_init_1 : decode cX7_init 1 = .ok (.invokespecial 3, 3) := by decide +kernel
theorem dX7_init_4 : decode cX7_init 4 = .ok (.aload_n 0, 1) := by decide +kernel
theorem dX7_init_5 : decode cX7_init 5 = .ok (.bipush 7, 2) := by decide +kernel
theorem dX7_init_7 : decode cX7_init 7 = .ok (.newarray .int, 2) := by decide +kernel
theorem dX7_init_9 : decode cX7_init 9 = .ok (.putfield 9, 3) := by decide +kernel
theorem dX7_init_12 : decode cX7_init 12 = .ok (.aload_n 0, 1) := by decide +kernel
theorem dX7_init_13 : decode cX7_init 13 = .ok (.bipush 7, 2) := by decide +kernel
theorem dX7_init_15 : decode cX7_init 15 = .ok (.newarray .int, 2) := by decide +kernel
theorem dX7_init_17 : decode cX7_init 17 = .ok (.putfield 15, 3) := by decide +kernel
theorem dX7_init_20 : decode cX7_init 20 = .ok (.aload_n 0, 1) := by decide +kernel
theorem dX7_init_21 : decode cX7_init 21 = .ok (.bipush 7, 2) := by decide +kernel
theorem dX7_init_23 : decode cX7_init 23 = .ok (.newarray .int, 2) := by decide +kernel
theorem dX7_init_25 : decode cX7_init 25 = .ok (.putfield 18, 3) := by decide +kernel
theorem dX7_init_28 : decode cX7_init 28 = .ok (.aload_n 0, 1) := by decide +kernel
theorem dX7_init_29 : decode cX7_init 29 = .ok (.iconst 5, 1) := by decide +kernel
theorem dX7_init_30 : decode cX7_init 30 = .ok (.putfield 21, 3) := by decide +kernel
theorem dX7_init_33 : decode cX7_init 33 = .ok (.return_, 1) := by decide +kernel
theorem dX7_becomeLike_0 : decode cX7_becomeLike 0 = .ok (.iconst 0, 1) := by decide +kernel
theorem dX7_becomeLike_1 : decode cX7_becomeLike 1 = .ok (.istore_n 2, 1) := by decide +kernel
theorem dX7_becomeLike_2 : decode cX7_becomeLike 2 = .ok (.iload_n 2, 1) := by decide +kernel
theorem dX7_becomeLike_3 : decode cX7_becomeLike 3 = .ok (.bipush 7, 2) := by decide +kernel
theorem dX7_becomeLike_5 : decode cX7_becomeLike 5 = .ok (.if_icmp .ge 45, 3) := by decide +kernel
theorem dX7_becomeLike_8 : decode cX7_becomeLike 8 = .ok (.aload_n 0, 1) := by decide +kernel
theorem dX7_becomeLike_9 : decode cX7_becomeLike 9 = .ok (.getfield 9, 3) := by decide +kernel
theorem dX7_becomeLike_12 : decode cX7_becomeLike 12 = .ok (.iload_n 2, 1) := by decide +kernel
theorem dX7_becomeLike_13 : decode cX7_becomeLike 13 = .ok (.aload_n 1, 1) := by decide +kernel
theorem dX7_becomeLike_14 : decode cX7_becomeLike 14 = .ok (.getfield 9, 3) := by decide +kernel
theorem dX7_becomeLike_17 : decode cX7_becomeLike 17 = .ok (.iload_n 2, 1) := by decide +kernel
theorem dX7_becomeLike_18 : decode cX7_becomeLike 18 = .ok (.iaload, 1) := by decide +kernel
theorem dX7_becomeLike_19 : decode cX7_becomeLike 19 = .ok (.iastore, 1) := by decide +kernel
theorem dX7_becomeLike_20 : decode cX7_becomeLike 20 = .ok (.aload_n 0, 1) := by decide +kernel
theorem dX7_becomeLike_21 : decode cX7_becomeLike 21 = .ok (.getfield 15, 3) := by decide +kernel
theorem dX7_becomeLike_24 : decode cX7_becomeLike 24 = .ok (.iload_n 2, 1) := by decide +kernel
theorem dX7_becomeLike_25 : decode cX7_becomeLike 25 = .ok (.aload_n 1, 1) := by decide +kernel
theorem dX7_becomeLike_26 : decode cX7_becomeLike 26 = .ok (.getfield 15, 3) := by decide +kernel
theorem dX7_becomeLike_29 : decode cX7_becomeLike 29 = .ok (.iload_n 2, 1) := by decide +kernel
theorem dX7_becomeLike_30 : decode cX7_becomeLike 30 = .ok (.iaload, 1) := by decide +kernel
theorem dX7_becomeLike_31 : decode cX7_becomeLike 31 = .ok (.iastore, 1) := by decide +kernel
theorem dX7_becomeLike_32 : decode cX7_becomeLike 32 = .ok (.aload_n 0, 1) := by decide +kernel
theorem dX7_becomeLike_33 : decode cX7_becomeLike 33 = .ok (.getfield 18, 3) := by decide +kernel
theorem dX7_becomeLike_36 : decode cX7_becomeLike 36 = .ok (.iload_n 2, 1) := by decide +kernel
theorem dX7_becomeLike_37 : decode cX7_becomeLike 37 = .ok (.aload_n 1, 1) := by decide +kernel
theorem dX7_becomeLike_38 : decode cX7_becomeLike 38 = .ok (.getfield 18, 3) := by decide +kernel
theorem dX7_becomeLike_41 : decode cX7_becomeLike 41 = .ok (.iload_n 2, 1) := by decide +kernel
theorem dX7_becomeLike_42 : decode cX7_becomeLike 42 = .ok (.iaload, 1) := by decide +kernel
theorem dX7_becomeLike_43 : decode cX7_becomeLike 43 = .ok (.iastore, 1) := by decide +kernel
theorem dX7_becomeLike_44 : decode cX7_becomeLike 44 = .ok (.iinc 2 1, 3) := by decide +kernel
theorem dX7_becomeLike_47 : decode cX7_becomeLike 47 = .ok (.goto (-45), 3) := by decide +kernel
theorem dX7_becomeLike_50 : decode cX7_becomeLike 50 = .ok (.aload_n 0, 1) := by decide +kernel
theorem dX7_becomeLike_51 : decode cX7_becomeLike 51 = .ok (.aload_n 1, 1) := by decide +kernel
theorem dX7_becomeLike_52 : decode cX7_becomeLike 52 = .ok (.getfield 25, 3) := by decide +kernel
theorem dX7_becomeLike_55 : decode cX7_becomeLike 55 = .ok (.putfield 25, 3) := by decide +kernel
theorem dX7_becomeLike_58 : decode cX7_becomeLike 58 = .ok (.aload_n 0, 1) := by decide +kernel
theorem dX7_becomeLike_59 : decode cX7_becomeLike 59 = .ok (.aload_n 1, 1) := by decide +kernel
theorem dX7_becomeLike_60 : decode cX7_becomeLike 60 = .ok (.getfield 28, 3) := by decide +kernel
theorem dX7_becomeLike_63 : decode cX7_becomeLike 63 = .ok (.putfield 28, 3) := by decide +kernel
theorem dX7_becomeLike_66 : decode cX7_becomeLike 66 = .ok (.aload_n 0, 1) := by decide +kernel
theorem dX7_becomeLike_67 : decode cX7_becomeLike 67 = .ok (.aload_n 1, 1) := by decide +kernel
theorem dX7_becomeLike_68 : decode cX7_becomeLike 68 = .ok (.getfield 31, 3) := by decide +kernel
theorem dX7_becomeLike_71 : decode cX7_becomeLike 71 = .ok (.putfield 31, 3) := by decide +kernel
theorem dX7_becomeLike_74 : decode cX7_becomeLike 74 = .ok (.aload_n 0, 1) := by decide +kernel
theorem dX7_becomeLike_75 : decode cX7_becomeLike 75 = .ok (.aload_n 1, 1) := by decide +kernel
theorem dX7_becomeLike_76 : decode cX7_becomeLike 76 = .ok (.getfield 34, 3) := by decide +kernel
theorem dX7_becomeLike_79 : decode cX7_becomeLike 79 = .ok (.putfield 34, 3) := by decide +kernel
theorem dX7_becomeLike_82 : decode cX7_becomeLike 82 = .ok (.aload_n 0, 1) := by decide +kernel
theorem dX7_becomeLike_83 : decode cX7_becomeLike 83 = .ok (.aload_n 1, 1) := by decide +kernel
theorem dX7_becomeLike_84 : decode cX7_becomeLike 84 = .ok (.getfield 21, 3) := by decide +kernel
theorem dX7_becomeLike_87 : decode cX7_becomeLike 87 = .ok (.putfield 21, 3) := by decide +kernel
theorem dX7_becomeLike_90 : decode cX7_becomeLike 90 = .ok (.aload_n 0, 1) := by decide +kernel
theorem dX7_becomeLike_91 : decode cX7_becomeLike 91 = .ok (.aload_n 1, 1) := by decide +kernel
theorem dX7_becomeLike_92 : decode cX7_becomeLike 92 = .ok (.getfield 37, 3) := by decide +kernel
theorem dX7_becomeLike_95 : decode cX7_becomeLike 95 = .ok (.putfield 37, 3) := by decide +kernel
theorem dX7_becomeLike_98 : decode cX7_becomeLike 98 = .ok (.aload_n 0, 1) := by decide +kernel
theorem dX7_becomeLike_99 : decode cX7_becomeLike 99 = .ok (.aload_n 1, 1) := by decide +kernel
theorem dX7_becomeLike_100 : decode cX7_becomeLike 100 = .ok (.getfield 40, 3) := by decide +kernel
theorem dX7_becomeLike_103 : decode cX7_becomeLike 103 = .ok (.putfield 40, 3) := by decide +kernel
theorem dX7_becomeLike_106 : decode cX7_becomeLike 106 = .ok (.aload_n 0, 1) := by decide +kernel
theorem dX7_becomeLike_107 : decode cX7_becomeLike 107 = .ok (.aload_n 1, 1) := by decide +kernel
theorem dX7_becomeLike_108 : decode cX7_becomeLike 108 = .ok (.getfield 43, 3) := by decide +kernel
theorem dX7_becomeLike_111 : decode cX7_becomeLike 111 = .ok (.putfield 43, 3) := by decide +kernel
theorem dX7_becomeLike_114 : decode cX7_becomeLike 114 = .ok (.aload_n 0, 1) := by decide +kernel
theorem dX7_becomeLike_115 : decode cX7_becomeLike 115 = .ok (.aload_n 1, 1) := by decide +kernel
theorem dX7_becomeLike_116 : decode cX7_becomeLike 116 = .ok (.getfield 46, 3) := by decide +kernel
theorem dX7_becomeLike_119 : decode cX7_becomeLike 119 = .ok (.putfield 46, 3) := by decide +kernel
theorem dX7_becomeLike_122 : decode cX7_becomeLike 122 = .ok (.return_, 1) := by decide +kernel
set_option maxRecDepth 20000 in
theorem ggX7_settle_X8_isParish : GoodIn wsX7_settle wsX8_isParish := goodIn_r _ [7, 8, 9, 6, 10] (by decide +kernel) (by decide +kernel)
set_option maxRecDepth 20000 in
theorem gX7_settle_X8_isParish_n49 : GoodIn wsX7_settle (wsX8_isParish) := ggX7_settle_X8_isParish
set_option maxRecDepth 20000 in
theorem ggX7_settle_X8_withBit : GoodIn wsX7_settle wsX8_withBit := goodIn_r _ [12] (by decide +kernel) (by decide +kernel)
set_option maxRecDepth 20000 in
theorem gX7_settle_X8_withBit_n53 : GoodIn wsX7_settle (wsX8_withBit) := ggX7_settle_X8_withBit
theorem dX7_settle_0 : decode cX7_settle 0 = .ok (.iload_n 1, 1) := by decide +kernel
theorem dX7_settle_1 : decode cX7_settle 1 = .ok (.invokestatic 49, 3) := by decide +kernel
theorem dX7_settle_4 : decode cX7_settle 4 = .ok (.ifCond .eq 44, 3) := by decide +kernel
theorem dX7_settle_7 : decode cX7_settle 7 = .ok (.aload_n 0, 1) := by decide +kernel
theorem dX7_settle_8 : decode cX7_settle 8 = .ok (.aload_n 0, 1) := by decide +kernel
theorem dX7_settle_9 : decode cX7_settle 9 = .ok (.getfield 25, 3) := by decide +kernel
theorem dX7_settle_12 : decode cX7_settle 12 = .ok (.iload_n 1, 1) := by decide +kernel
theorem dX7_settle_13 : decode cX7_settle 13 = .ok (.iconst 1, 1) := by decide +kernel
theorem dX7_settle_14 : decode cX7_settle 14 = .ok (.invokestatic 53, 3) := by decide +kernel
theorem dX7_settle_17 : decode cX7_settle 17 = .ok (.putfield 25, 3) := by decide +kernel
theorem dX7_settle_20 : decode cX7_settle 20 = .ok (.aload_n 0, 1) := by decide +kernel
theorem dX7_settle_21 : decode cX7_settle 21 = .ok (.getfield 9, 3) := by decide +kernel
theorem dX7_settle_24 : decode cX7_settle 24 = .ok (.iload_n 1, 1) := by decide +kernel
theorem dX7_settle_25 : decode cX7_settle 25 = .ok (.iload_n 2, 1) := by decide +kernel
theorem dX7_settle_26 : decode cX7_settle 26 = .ok (.iastore, 1) := by decide +kernel
theorem dX7_settle_27 : decode cX7_settle 27 = .ok (.aload_n 0, 1) := by decide +kernel
theorem dX7_settle_28 : decode cX7_settle 28 = .ok (.aload_n 0, 1) := by decide +kernel
theorem dX7_settle_29 : decode cX7_settle 29 = .ok (.getfield 28, 3) := by decide +kernel
theorem dX7_settle_32 : decode cX7_settle 32 = .ok (.iload_n 1, 1) := by decide +kernel
theorem dX7_settle_33 : decode cX7_settle 33 = .ok (.iload_n 3, 1) := by decide +kernel
theorem dX7_settle_34 : decode cX7_settle 34 = .ok (.invokestatic 53, 3) := by decide +kernel
theorem dX7_settle_37 : decode cX7_settle 37 = .ok (.putfield 28, 3) := by decide +kernel
theorem dX7_settle_40 : decode cX7_settle 40 = .ok (.aload_n 0, 1) := by decide +kernel
theorem dX7_settle_41 : decode cX7_settle 41 = .ok (.getfield 15, 3) := by decide +kernel
theorem dX7_settle_44 : decode cX7_settle 44 = .ok (.iload_n 1, 1) := by decide +kernel
theorem dX7_settle_45 : decode cX7_settle 45 = .ok (.iload 4, 2) := by decide +kernel
theorem dX7_settle_47 : decode cX7_settle 47 = .ok (.iastore, 1) := by decide +kernel
theorem dX7_settle_48 : decode cX7_settle 48 = .ok (.return_, 1) := by decide +kernel
set_option maxRecDepth 20000 in
theorem ggX7_see_X8_withBit : GoodIn wsX7_see wsX8_withBit := goodIn_r _ [6] (by decide +kernel) (by decide +kernel)
set_option maxRecDepth 20000 in
theorem gX7_see_X8_withBit_n53 : GoodIn wsX7_see (wsX8_withBit) := ggX7_see_X8_withBit
theorem dX7_see_0 : decode cX7_see 0 = .ok (.aload_n 0, 1) := by decide +kernel
theorem dX7_see_1 : decode cX7_see 1 = .ok (.dup, 1) := by decide +kernel
theorem dX7_see_2 : decode cX7_see 2 = .ok (.getfield 40, 3) := by decide +kernel
theorem dX7_see_5 : decode cX7_see 5 = .ok (.iconst 1, 1) := by decide +kernel
theorem dX7_see_6 : decode cX7_see 6 = .ok (.iadd, 1) := by decide +kernel
theorem dX7_see_7 : decode cX7_see 7 = .ok (.putfield 40, 3) := by decide +kernel
theorem dX7_see_10 : decode cX7_see 10 = .ok (.iload_n 2, 1) := by decide +kernel
theorem dX7_see_11 : decode cX7_see 11 = .ok (.ifCond .eq 19, 3) := by decide +kernel
theorem dX7_see_14 : decode cX7_see 14 = .ok (.aload_n 0, 1) := by decide +kernel
theorem dX7_see_15 : decode cX7_see 15 = .ok (.aload_n 0, 1) := by decide +kernel
theorem dX7_see_16 : decode cX7_see 16 = .ok (.getfield 43, 3) := by decide +kernel
theorem dX7_see_19 : decode cX7_see 19 = .ok (.iload_n 1, 1) := by decide +kernel
theorem dX7_see_20 : decode cX7_see 20 = .ok (.iconst 1, 1) := by decide +kernel
theorem dX7_see_21 : decode cX7_see 21 = .ok (.invokestatic 53, 3) := by decide +kernel
theorem dX7_see_24 : decode cX7_see 24 = .ok (.putfield 43, 3) := by decide +kernel
theorem dX7_see_27 : decode cX7_see 27 = .ok (.goto 16, 3) := by decide +kernel
theorem dX7_see_30 : decode cX7_see 30 = .ok (.aload_n 0, 1) := by decide +kernel
theorem dX7_see_31 : decode cX7_see 31 = .ok (.aload_n 0, 1) := by decide +kernel
theorem dX7_see_32 : decode cX7_see 32 = .ok (.getfield 46, 3) := by decide +kernel
theorem dX7_see_35 : decode cX7_see 35 = .ok (.iload_n 1, 1) := by decide +kernel
theorem dX7_see_36 : decode cX7_see 36 = .ok (.iconst 1, 1) := by decide +kernel
theorem dX7_see_37 : decode cX7_see 37 = .ok (.invokestatic 53, 3) := by decide +kernel
theorem dX7_see_40 : decode cX7_see 40 = .ok (.putfield 46, 3) := by decide +kernel
theorem dX7_see_43 : decode cX7_see 43 = .ok (.return_, 1) := by decide +kernel
theorem dX7_isThere_0 : decode cX7_isThere 0 = .ok (.iload_n 1, 1) := by decide +kernel
theorem dX7_isThere_1 : decode cX7_isThere 1 = .ok (.ifCond .lt 24, 3) := by decide +kernel
theorem dX7_isThere_4 : decode cX7_isThere 4 = .ok (.iload_n 1, 1) := by decide +kernel
theorem dX7_isThere_5 : decode cX7_isThere 5 = .ok (.bipush 7, 2) := by decide +kernel
theorem dX7_isThere_7 : decode cX7_isThere 7 = .ok (.if_icmp .ge 18, 3) := by decide +kernel
theorem dX7_isThere_10 : decode cX7_isThere 10 = .ok (.aload_n 0, 1) := by decide +kernel
theorem dX7_isThere_11 : decode cX7_isThere 11 = .ok (.getfield 25, 3) := by decide +kernel
theorem dX7_isThere_14 : decode cX7_isThere 14 = .ok (.iload_n 1, 1) := by decide +kernel
theorem dX7_isThere_15 : decode cX7_isThere 15 = .ok (.ishr, 1) := by decide +kernel
theorem dX7_isThere_16 : decode cX7_isThere 16 = .ok (.iconst 1, 1) := by decide +kernel
theorem dX7_isThere_17 : decode cX7_isThere 17 = .ok (.iand, 1) := by decide +kernel
theorem dX7_isThere_18 : decode cX7_isThere 18 = .ok (.ifCond .eq 7, 3) := by decide +kernel
theorem dX7_isThere_21 : decode cX7_isThere 21 = .ok (.iconst 1, 1) := by decide +kernel
theorem dX7_isThere_22 : decode cX7_isThere 22 = .ok (.goto 4, 3) := by decide +kernel
theorem dX7_isThere_25 : decode cX7_isThere 25 = .ok (.iconst 0, 1) := by decide +kernel
theorem dX7_isThere_26 : decode cX7_isThere 26 = .ok (.ireturn, 1) := by decide +kernel
set_option maxRecDepth 20000 in
theorem ggX7_parishesThere_J6_bitCount_0f7a4 : GoodIn wsX7_parishesThere wsJ6_bitCount_0f7a4 := goodIn_r _ [5, 6, 7, 8] (by decide +kernel) (by decide +kernel)
set_option maxRecDepth 20000 in
theorem gX7_parishesThere_J6_bitCount_0f7a4 : GoodIn wsX7_parishesThere (va_wsS RX7 57 yJ6_bitCount_0f7a4 wsJ6_bitCount_0f7a4) := goodIn_app (goodIn_of _ (by decide +kernel)) ggX7_parishesThere_J6_bitCount_0f7a4
theorem dX7_parishesThere_0 : decode cX7_parishesThere 0 = .ok (.aload_n 0, 1) := by decide +kernel
theorem dX7_parishesThere_1 : decode cX7_parishesThere 1 = .ok (.getfield 25, 3) := by decide +kernel
theorem dX7_parishesThere_4 : decode cX7_parishesThere 4 = .ok (.invokestatic 57, 3) := by decide +kernel
theorem dX7_parishesThere_7 : decode cX7_parishesThere 7 = .ok (.ireturn, 1) := by decide +kernel
set_option maxRecDepth 20000 in
theorem ggX7_pairsOfNeighbours_J6_bitCount_0f7a4 : GoodIn wsX7_pairsOfNeighbours wsJ6_bitCount_0f7a4 := goodIn_r _ [5, 6, 7, 8] (by decide +kernel) (by decide +kernel)
set_option maxRecDepth 20000 in
theorem gX7_pairsOfNeighbours_J6_bitCount_0f7a4 : GoodIn wsX7_pairsOfNeighbours (va_wsS RX7 57 yJ6_bitCount_0f7a4 wsJ6_bitCount_0f7a4) := goodIn_app (goodIn_of _ (by decide +kernel)) ggX7_pairsOfNeighbours_J6_bitCount_0f7a4
theorem dX7_pairsOfNeighbours_0 : decode cX7_pairsOfNeighbours 0 = .ok (.iconst 0, 1) := by decide +kernel
theorem dX7_pairsOfNeighbours_1 : decode cX7_pairsOfNeighbours 1 = .ok (.istore_n 1, 1) := by decide +kernel
theorem dX7_pairsOfNeighbours_2 : decode cX7_pairsOfNeighbours 2 = .ok (.iconst 0, 1) := by decide +kernel
theorem dX7_pairsOfNeighbours_3 : decode cX7_pairsOfNeighbours 3 = .ok (.istore_n 2, 1) := by decide +kernel
theorem dX7_pairsOfNeighbours_4 : decode cX7_pairsOfNeighbours 4 = .ok (.iload_n 2, 1) := by decide +kernel
theorem dX7_pairsOfNeighbours_5 : decode cX7_pairsOfNeighbours 5 = .ok (.bipush 7, 2) := by decide +kernel
theorem dX7_pairsOfNeighbours_7 : decode cX7_pairsOfNeighbours 7 = .ok (.if_icmp .ge 21, 3) := by decide +kernel
theorem dX7_pairsOfNeighbours_10 : decode cX7_pairsOfNeighbours 10 = .ok (.iload_n 1, 1) := by decide +kernel
theorem dX7_pairsOfNeighbours_11 : decode cX7_pairsOfNeighbours 11 = .ok (.aload_n 0, 1) := by decide +kernel
theorem dX7_pairsOfNeighbours_12 : decode cX7_pairsOfNeighbours 12 = .ok (.getfield 18, 3) := by decide +kernel
theorem dX7_pairsOfNeighbours_15 : decode cX7_pairsOfNeighbours 15 = .ok (.iload_n 2, 1) := by decide +kernel
theorem dX7_pairsOfNeighbours_16 : decode cX7_pairsOfNeighbours 16 = .ok (.iaload, 1) := by decide +kernel
theorem dX7_pairsOfNeighbours_17 : decode cX7_pairsOfNeighbours 17 = .ok (.invokestatic 57, 3) := by decide +kernel
theorem dX7_pairsOfNeighbours_20 : decode cX7_pairsOfNeighbours 20 = .ok (.iadd, 1) := by decide +kernel
theorem dX7_pairsOfNeighbours_21 : decode cX7_pairsOfNeighbours 21 = .ok (.istore_n 1, 1) := by decide +kernel
theorem dX7_pairsOfNeighbours_22 : decode cX7_pairsOfNeighbours 22 = .ok (.iinc 2 1, 3) := by decide +kernel
theorem dX7_pairsOfNeighbours_25 : decode cX7_pairsOfNeighbours 25 = .ok (.goto (-21), 3) := by decide +kernel
theorem dX7_pairsOfNeighbours_28 : decode cX7_pairsOfNeighbours 28 = .ok (.iload_n 1, 1) := by decide +kernel
theorem dX7_pairsOfNeighbours_29 : decode cX7_pairsOfNeighbours 29 = .ok (.iconst 2, 1) := by decide +kernel
theorem dX7_pairsOfNeighbours_30 : decode cX7_pairsOfNeighbours 30 = .ok (.idiv, 1) := by decide +kernel
theorem dX7_pairsOfNeighbours_31 : decode cX7_pairsOfNeighbours 31 = .ok (.ireturn, 1) := by decide +kernel
set_option maxRecDepth 20000 in
theorem ggX7_tell_X7_isThere : GoodIn wsX7_tell wsX7_isThere := goodIn_r _ [8, 9, 13, 14, 15, 16, 17, 18, 19, 20, 21, 22, 23, 24] (by decide +kernel) (by decide +kernel)
set_option maxRecDepth 20000 in
theorem gX7_tell_X7_isThere : GoodIn wsX7_tell (wsV RX7 63 RX7 yX7_isThere wsX7_isThere) := goodIn_app (goodIn_of _ (by decide +kernel)) ggX7_tell_X7_isThere
set_option maxRecDepth 20000 in
theorem ggX7_tell_X8_hasBit : GoodIn wsX7_tell wsX8_hasBit := goodIn_r _ [12] (by decide +kernel) (by decide +kernel)
set_option maxRecDepth 20000 in
theorem gX7_tell_X8_hasBit_n66 : GoodIn wsX7_tell (wsX8_hasBit) := ggX7_tell_X8_hasBit
theorem dX7_tell_0 : decode cX7_tell 0 = .ok (.aload_n 0, 1) := by decide +kernel
theorem dX7_tell_1 : decode cX7_tell 1 = .ok (.iload_n 1, 1) := by decide +kernel
theorem dX7_tell_2 : decode cX7_tell 2 = .ok (.invokevirtual 63, 3) := by decide +kernel
theorem dX7_tell_5 : decode cX7_tell 5 = .ok (.ifCond .ne 5, 3) := by decide +kernel
theorem dX7_tell_8 : decode cX7_tell 8 = .ok (.iconst (-1), 1) := by decide +kernel
theorem dX7_tell_9 : decode cX7_tell 9 = .ok (.ireturn, 1) := by decide +kernel
theorem dX7_tell_10 : decode cX7_tell 10 = .ok (.iload_n 2, 1) := by decide +kernel
theorem dX7_tell_11 : decode cX7_tell 11 = .ok (.ifCond .ne 10, 3) := by decide +kernel
theorem dX7_tell_14 : decode cX7_tell 14 = .ok (.aload_n 0, 1) := by decide +kernel
theorem dX7_tell_15 : decode cX7_tell 15 = .ok (.getfield 9, 3) := by decide +kernel
theorem dX7_tell_18 : decode cX7_tell 18 = .ok (.iload_n 1, 1) := by decide +kernel
theorem dX7_tell_19 : decode cX7_tell 19 = .ok (.iaload, 1) := by decide +kernel
theorem dX7_tell_20 : decode cX7_tell 20 = .ok (.ireturn, 1) := by decide +kernel
theorem dX7_tell_21 : decode cX7_tell 21 = .ok (.iload_n 2, 1) := by decide +kernel
theorem dX7_tell_22 : decode cX7_tell 22 = .ok (.iconst 1, 1) := by decide +kernel
theorem dX7_tell_23 : decode cX7_tell 23 = .ok (.if_icmp .ne 10, 3) := by decide +kernel
theorem dX7_tell_26 : decode cX7_tell 26 = .ok (.aload_n 0, 1) := by decide +kernel
theorem dX7_tell_27 : decode cX7_tell 27 = .ok (.getfield 15, 3) := by decide +kernel
theorem dX7_tell_30 : decode cX7_tell 30 = .ok (.iload_n 1, 1) := by decide +kernel
theorem dX7_tell_31 : decode cX7_tell 31 = .ok (.iaload, 1) := by decide +kernel
theorem dX7_tell_32 : decode cX7_tell 32 = .ok (.ireturn, 1) := by decide +kernel
theorem dX7_tell_33 : decode cX7_tell 33 = .ok (.aload_n 0, 1) := by decide +kernel
theorem dX7_tell_34 : decode cX7_tell 34 = .ok (.getfield 28, 3) := by decide +kernel
theorem dX7_tell_37 : decode cX7_tell 37 = .ok (.iload_n 1, 1) := by decide +kernel
theorem dX7_tell_38 : decode cX7_tell 38 = .ok (.invokestatic 66, 3) := by decide +kernel
theorem dX7_tell_41 : decode cX7_tell 41 = .ok (.ifCond .eq 7, 3) := by decide +kernel
theorem dX7_tell_44 : decode cX7_tell 44 = .ok (.iconst 1, 1) := by decide +kernel
theorem dX7_tell_45 : decode cX7_tell 45 = .ok (.goto 4, 3) := by decide +kernel
theorem dX7_tell_48 : decode cX7_tell 48 = .ok (.iconst 0, 1) := by decide +kernel
theorem dX7_tell_49 : decode cX7_tell 49 = .ok (.ireturn, 1) := by decide +kernel
set_option maxRecDepth 20000 in
theorem ggX7_agreeing_X7_isThere : GoodIn wsX7_agreeing wsX7_isThere := goodIn_r _ [6, 7, 17, 18, 19, 20, 21, 22, 23, 24, 25, 26, 27, 28] (by decide +kernel) (by decide +kernel)
set_option maxRecDepth 20000 in
theorem gX7_agreeing_X7_isThere : GoodIn wsX7_agreeing (wsV RX7 63 RX7 yX7_isThere wsX7_isThere) := goodIn_app (goodIn_of _ (by decide +kernel)) ggX7_agreeing_X7_isThere
set_option maxRecDepth 20000 in
theorem ggX7_agreeing_X8_apart : GoodIn wsX7_agreeing wsX8_apart := goodIn_r _ [10, 11, 12, 13, 14] (by decide +kernel) (by decide +kernel)
set_option maxRecDepth 20000 in
theorem gX7_agreeing_X8_apart_n70 : GoodIn wsX7_agreeing (wsX8_apart) := ggX7_agreeing_X8_apart
set_option maxRecDepth 20000 in
theorem ggX7_agreeing_X8_withBit : GoodIn wsX7_agreeing wsX8_withBit := goodIn_r _ [16] (by decide +kernel) (by decide +kernel)
set_option maxRecDepth 20000 in
theorem gX7_agreeing_X8_withBit_n53 : GoodIn wsX7_agreeing (wsX8_withBit) := ggX7_agreeing_X8_withBit
theorem dX7_agreeing_0 : decode cX7_agreeing 0 = .ok (.iconst 0, 1) := by decide +kernel
theorem dX7_agreeing_1 : decode cX7_agreeing 1 = .ok (.istore_n 2, 1) := by decide +kernel
theorem dX7_agreeing_2 : decode cX7_agreeing 2 = .ok (.iconst 0, 1) := by decide +kernel
theorem dX7_agreeing_3 : decode cX7_agreeing 3 = .ok (.istore_n 3, 1) := by decide +kernel
theorem dX7_agreeing_4 : decode cX7_agreeing 4 = .ok (.iload_n 3, 1) := by decide +kernel
theorem dX7_agreeing_5 : decode cX7_agreeing 5 = .ok (.bipush 7, 2) := by decide +kernel
theorem dX7_agreeing_7 : decode cX7_agreeing 7 = .ok (.if_icmp .ge 38, 3) := by decide +kernel
theorem dX7_agreeing_10 : decode cX7_agreeing 10 = .ok (.aload_n 0, 1) := by decide +kernel
theorem dX7_agreeing_11 : decode cX7_agreeing 11 = .ok (.iload_n 3, 1) := by decide +kernel
theorem dX7_agreeing_12 : decode cX7_agreeing 12 = .ok (.invokevirtual 63, 3) := by decide +kernel
theorem dX7_agreeing_15 : decode cX7_agreeing 15 = .ok (.ifCond .eq 24, 3) := by decide +kernel
theorem dX7_agreeing_18 : decode cX7_agreeing 18 = .ok (.aload_n 0, 1) := by decide +kernel
theorem dX7_agreeing_19 : decode cX7_agreeing 19 = .ok (.getfield 9, 3) := by decide +kernel
theorem dX7_agreeing_22 : decode cX7_agreeing 22 = .ok (.iload_n 3, 1) := by decide +kernel
theorem dX7_agreeing_23 : decode cX7_agreeing 23 = .ok (.iaload, 1) := by decide +kernel
theorem dX7_agreeing_24 : decode cX7_agreeing 24 = .ok (.iload_n 1, 1) := by decide +kernel
theorem dX7_agreeing_25 : decode cX7_agreeing 25 = .ok (.invokestatic 70, 3) := by decide +kernel
theorem dX7_agreeing_28 : decode cX7_agreeing 28 = .ok (.iconst 1, 1) := by decide +kernel
theorem dX7_agreeing_29 : decode cX7_agreeing 29 = .ok (.if_icmp .gt 10, 3) := by decide +kernel
theorem dX7_agreeing_32 : decode cX7_agreeing 32 = .ok (.iload_n 2, 1) := by decide +kernel
theorem dX7_agreeing_33 : decode cX7_agreeing 33 = .ok (.iload_n 3, 1) := by decide +kernel
theorem dX7_agreeing_34 : decode cX7_agreeing 34 = .ok (.iconst 1, 1) := by decide +kernel
theorem dX7_agreeing_35 : decode cX7_agreeing 35 = .ok (.invokestatic 53, 3) := by decide +kernel
theorem dX7_agreeing_38 : decode cX7_agreeing 38 = .ok (.istore_n 2, 1) := by decide +kernel
theorem dX7_agreeing_39 : decode cX7_agreeing 39 = .ok (.iinc 3 1, 3) := by decide +kernel
theorem dX7_agreeing_42 : decode cX7_agreeing 42 = .ok (.goto (-38), 3) := by decide +kernel
theorem dX7_agreeing_45 : decode cX7_agreeing 45 = .ok (.iload_n 2, 1) := by decide +kernel
theorem dX7_agreeing_46 : decode cX7_agreeing 46 = .ok (.ireturn, 1) := by decide +kernel
set_option maxRecDepth 20000 in
theorem ggX7_wouldCarry_X7_agreeing : GoodIn wsX7_wouldCarry wsX7_agreeing := goodIn_r _ [5, 6, 7, 8, 9, 4, 10, 11, 12, 13, 14, 15, 16, 17, 18, 19, 20, 32, 33, 34, 35, 36, 37, 38, 39, 40, 41, 42, 43] (by decide +kernel) (by decide +kernel)
set_option maxRecDepth 20000 in
theorem gX7_wouldCarry_X7_agreeing : GoodIn wsX7_wouldCarry (wsV RX7 74 RX7 yX7_agreeing wsX7_agreeing) := goodIn_app (goodIn_of _ (by decide +kernel)) ggX7_wouldCarry_X7_agreeing
set_option maxRecDepth 20000 in
theorem ggX7_wouldCarry_J6_bitCount_0f7a4 : GoodIn wsX7_wouldCarry wsJ6_bitCount_0f7a4 := goodIn_r _ [24, 25, 26, 27] (by decide +kernel) (by decide +kernel)
set_option maxRecDepth 20000 in
theorem gX7_wouldCarry_J6_bitCount_0f7a4 : GoodIn wsX7_wouldCarry (va_wsS RX7 57 yJ6_bitCount_0f7a4 wsJ6_bitCount_0f7a4) := goodIn_app (goodIn_of _ (by decide +kernel)) ggX7_wouldCarry_J6_bitCount_0f7a4
set_option maxRecDepth 20000 in
theorem ggX7_wouldCarry_X7_parishesThere : GoodIn wsX7_wouldCarry wsX7_parishesThere := goodIn_r _ [31, 11, 21, 22, 23, 24, 25, 26, 27, 32, 33, 34, 35, 36, 37, 38, 39, 40, 41, 42, 43] (by decide +kernel) (by decide +kernel)
set_option maxRecDepth 20000 in
theorem gX7_wouldCarry_X7_parishesThere : GoodIn wsX7_wouldCarry (wsV RX7 77 RX7 yX7_parishesThere wsX7_parishesThere) := goodIn_app (goodIn_of _ (by decide +kernel)) ggX7_wouldCarry_X7_parishesThere
theorem dX7_wouldCarry_0 : decode cX7_wouldCarry 0 = .ok (.iconst 2, 1) := by decide +kernel
theorem dX7_wouldCarry_1 : decode cX7_wouldCarry 1 = .ok (.aload_n 0, 1) := by decide +kernel
theorem dX7_wouldCarry_2 : decode cX7_wouldCarry 2 = .ok (.iload_n 1, 1) := by decide +kernel
theorem dX7_wouldCarry_3 : decode cX7_wouldCarry 3 = .ok (.invokevirtual 74, 3) := by decide +kernel
theorem dX7_wouldCarry_6 : decode cX7_wouldCarry 6 = .ok (.invokestatic 57, 3) := by decide +kernel
theorem dX7_wouldCarry_9 : decode cX7_wouldCarry 9 = .ok (.imul, 1) := by decide +kernel
theorem dX7_wouldCarry_10 : decode cX7_wouldCarry 10 = .ok (.aload_n 0, 1) := by decide +kernel
theorem dX7_wouldCarry_11 : decode cX7_wouldCarry 11 = .ok (.invokevirtual 77, 3) := by decide +kernel
theorem dX7_wouldCarry_14 : decode cX7_wouldCarry 14 = .ok (.if_icmp .le 7, 3) := by decide +kernel
theorem dX7_wouldCarry_17 : decode cX7_wouldCarry 17 = .ok (.iconst 1, 1) := by decide +kernel
theorem dX7_wouldCarry_18 : decode cX7_wouldCarry 18 = .ok (.goto 4, 3) := by decide +kernel
theorem dX7_wouldCarry_21 : decode cX7_wouldCarry 21 = .ok (.iconst 0, 1) := by decide +kernel
theorem dX7_wouldCarry_22 : decode cX7_wouldCarry 22 = .ok (.ireturn, 1) := by decide +kernel
set_option maxRecDepth 20000 in
theorem ggX7_mostTired_X7_isThere : GoodIn wsX7_mostTired wsX7_isThere := goodIn_r _ [6, 7, 8, 9, 10, 11, 12, 13, 14, 15, 16, 17, 18, 19] (by decide +kernel) (by decide +kernel)
set_option maxRecDepth 20000 in
theorem gX7_mostTired_X7_isThere : GoodIn wsX7_mostTired (wsV RX7 63 RX7 yX7_isThere wsX7_isThere) := goodIn_app (goodIn_of _ (by decide +kernel)) ggX7_mostTired_X7_isThere
theorem dX7_mostTired_0 : decode cX7_mostTired 0 = .ok (.bipush (-6), 2) := by decide +kernel
theorem dX7_mostTired_2 : decode cX7_mostTired 2 = .ok (.istore_n 1, 1) := by decide +kernel
theorem dX7_mostTired_3 : decode cX7_mostTired 3 = .ok (.iconst (-1), 1) := by decide +kernel
theorem dX7_mostTired_4 : decode cX7_mostTired 4 = .ok (.istore_n 2, 1) := by decide +kernel
theorem dX7_mostTired_5 : decode cX7_mostTired 5 = .ok (.iconst 0, 1) := by decide +kernel
theorem dX7_mostTired_6 : decode cX7_mostTired 6 = .ok (.istore_n 3, 1) := by decide +kernel
theorem dX7_mostTired_7 : decode cX7_mostTired 7 = .ok (.iload_n 3, 1) := by decide +kernel
theorem dX7_mostTired_8 : decode cX7_mostTired 8 = .ok (.bipush 7, 2) := by decide +kernel
theorem dX7_mostTired_10 : decode cX7_mostTired 10 = .ok (.if_icmp .ge 36, 3) := by decide +kernel
theorem dX7_mostTired_13 : decode cX7_mostTired 13 = .ok (.aload_n 0, 1) := by decide +kernel
theorem dX7_mostTired_14 : decode cX7_mostTired 14 = .ok (.iload_n 3, 1) := by decide +kernel
theorem dX7_mostTired_15 : decode cX7_mostTired 15 = .ok (.invokevirtual 63, 3) := by decide +kernel
theorem dX7_mostTired_18 : decode cX7_mostTired 18 = .ok (.ifCond .eq 22, 3) := by decide +kernel
theorem dX7_mostTired_21 : decode cX7_mostTired 21 = .ok (.aload_n 0, 1) := by decide +kernel
theorem dX7_mostTired_22 : decode cX7_mostTired 22 = .ok (.getfield 15, 3) := by decide +kernel
theorem dX7_mostTired_25 : decode cX7_mostTired 25 = .ok (.iload_n 3, 1) := by decide +kernel
theorem dX7_mostTired_26 : decode cX7_mostTired 26 = .ok (.iaload, 1) := by decide +kernel
theorem dX7_mostTired_27 : decode cX7_mostTired 27 = .ok (.iload_n 2, 1) := by decide +kernel
theorem dX7_mostTired_28 : decode cX7_mostTired 28 = .ok (.if_icmp .le 12, 3) := by decide +kernel
theorem dX7_mostTired_31 : decode cX7_mostTired 31 = .ok (.iload_n 3, 1) := by decide +kernel
theorem dX7_mostTired_32 : decode cX7_mostTired 32 = .ok (.istore_n 1, 1) := by decide +kernel
theorem dX7_mostTired_33 : decode cX7_mostTired 33 = .ok (.aload_n 0, 1) := by decide +kernel
theorem dX7_mostTired_34 : decode cX7_mostTired 34 = .ok (.getfield 15, 3) := by decide +kernel
theorem dX7_mostTired_37 : decode cX7_mostTired 37 = .ok (.iload_n 3, 1) := by decide +kernel
theorem dX7_mostTired_38 : decode cX7_mostTired 38 = .ok (.iaload, 1) := by decide +kernel
theorem dX7_mostTired_39 : decode cX7_mostTired 39 = .ok (.istore_n 2, 1) := by decide +kernel
theorem dX7_mostTired_40 : decode cX7_mostTired 40 = .ok (.iinc 3 1, 3) := by decide +kernel
theorem dX7_mostTired_43 : decode cX7_mostTired 43 = .ok (.goto (-36), 3) := by decide +kernel
theorem dX7_mostTired_46 : decode cX7_mostTired 46 = .ok (.iload_n 1, 1) := by decide +kernel
theorem dX7_mostTired_47 : decode cX7_mostTired 47 = .ok (.ireturn, 1) := by decide +kernel
set_option maxRecDepth 20000 in
theorem ggX7_tiredInAll_X7_isThere : GoodIn wsX7_tiredInAll wsX7_isThere := goodIn_r _ [6, 7, 8, 9, 10, 11, 12, 13, 14, 15, 16, 17, 18, 19] (by decide +kernel) (by decide +kernel)
set_option maxRecDepth 20000 in
theorem gX7_tiredInAll_X7_isThere : GoodIn wsX7_tiredInAll (wsV RX7 63 RX7 yX7_isThere wsX7_isThere) := goodIn_app (goodIn_of _ (by decide +kernel)) ggX7_tiredInAll_X7_isThere
theorem dX7_tiredInAll_0 : decode cX7_tiredInAll 0 = .ok (.iconst 0, 1) := by decide +kernel
theorem dX7_tiredInAll_1 : decode cX7_tiredInAll 1 = .ok (.istore_n 1, 1) := by decide +kernel
theorem dX7_tiredInAll_2 : decode cX7_tiredInAll 2 = .ok (.iconst 0, 1) := by decide +kernel
theorem dX7_tiredInAll_3 : decode cX7_tiredInAll 3 = .ok (.istore_n 2, 1) := by decide +kernel
theorem dX7_tiredInAll_4 : decode cX7_tiredInAll 4 = .ok (.iload_n 2, 1) := by decide +kernel
theorem dX7_tiredInAll_5 : decode cX7_tiredInAll 5 = .ok (.bipush 7, 2) := by decide +kernel
theorem dX7_tiredInAll_7 : decode cX7_tiredInAll 7 = .ok (.if_icmp .ge 30, 3) := by decide +kernel
theorem dX7_tiredInAll_10 : decode cX7_tiredInAll 10 = .ok (.iload_n 1, 1) := by decide +kernel
theorem dX7_tiredInAll_11 : decode cX7_tiredInAll 11 = .ok (.aload_n 0, 1) := by decide +kernel
theorem dX7_tiredInAll_12 : decode cX7_tiredInAll 12 = .ok (.iload_n 2, 1) := by decide +kernel
theorem dX7_tiredInAll_13 : decode cX7_tiredInAll 13 = .ok (.invokevirtual 63, 3) := by decide +kernel
theorem dX7_tiredInAll_16 : decode cX7_tiredInAll 16 = .ok (.ifCond .eq 12, 3) := by decide +kernel
theorem dX7_tiredInAll_19 : decode cX7_tiredInAll 19 = .ok (.aload_n 0, 1) := by decide +kernel
theorem dX7_tiredInAll_20 : decode cX7_tiredInAll 20 = .ok (.getfield 15, 3) := by decide +kernel
theorem dX7_tiredInAll_23 : decode cX7_tiredInAll 23 = .ok (.iload_n 2, 1) := by decide +kernel
theorem dX7_tiredInAll_24 : decode cX7_tiredInAll 24 = .ok (.iaload, 1) := by decide +kernel
theorem dX7_tiredInAll_25 : decode cX7_tiredInAll 25 = .ok (.goto 4, 3) := by decide +kernel
theorem dX7_tiredInAll_28 : decode cX7_tiredInAll 28 = .ok (.iconst 0, 1) := by decide +kernel
theorem dX7_tiredInAll_29 : decode cX7_tiredInAll 29 = .ok (.iadd, 1) := by decide +kernel
theorem dX7_tiredInAll_30 : decode cX7_tiredInAll 30 = .ok (.istore_n 1, 1) := by decide +kernel
theorem dX7_tiredInAll_31 : decode cX7_tiredInAll 31 = .ok (.iinc 2 1, 3) := by decide +kernel
theorem dX7_tiredInAll_34 : decode cX7_tiredInAll 34 = .ok (.goto (-30), 3) := by decide +kernel
theorem dX7_tiredInAll_37 : decode cX7_tiredInAll 37 = .ok (.iload_n 1, 1) := by decide +kernel
theorem dX7_tiredInAll_38 : decode cX7_tiredInAll 38 = .ok (.ireturn, 1) := by decide +kernel
set_option maxRecDepth 20000 in
theorem ggX7_reasonAgainst_X7_reasonAgainstTouching : GoodIn wsX7_reasonAgainst wsX7_reasonAgainstTouching := goodIn_r _ [8, 9, 10, 11, 12, 13, 14, 7, 15, 2, 16, 17, 18, 19, 20, 21, 22, 23, 24, 25, 26, 27, 28, 29, 30] (by decide +kernel) (by decide +kernel)
set_option maxRecDepth 20000 in
theorem gX7_reasonAgainst_X7_reasonAgainstTouching : GoodIn wsX7_reasonAgainst (wsV RX7 81 RX7 yX7_reasonAgainstTouching wsX7_reasonAgainstTouching) := goodIn_app (goodIn_of _ (by decide +kernel)) ggX7_reasonAgainst_X7_reasonAgainstTouching
theorem dX7_reasonAgainst_0 : decode cX7_reasonAgainst 0 = .ok (.iload_n 1, 1) := by decide +kernel
theorem dX7_reasonAgainst_1 : decode cX7_reasonAgainst 1 = .ok (.tableswitch 71 0 4 #[35, 35, 35, 43, 57], 35) := by decide +kernel
theorem dX7_reasonAgainst_36 : decode cX7_reasonAgainst 36 = .ok (.aload_n 0, 1) := by decide +kernel
theorem dX7_reasonAgainst_37 : decode cX7_reasonAgainst 37 = .ok (.iload_n 1, 1) := by decide +kernel
theorem dX7_reasonAgainst_38 : decode cX7_reasonAgainst 38 = .ok (.iload_n 2, 1) := by decide +kernel
theorem dX7_reasonAgainst_39 : decode cX7_reasonAgainst 39 = .ok (.iload_n 3, 1) := by decide +kernel
theorem dX7_reasonAgainst_40 : decode cX7_reasonAgainst 40 = .ok (.invokevirtual 81, 3) := by decide +kernel
theorem dX7_reasonAgainst_43 : decode cX7_reasonAgainst 43 = .ok (.ireturn, 1) := by decide +kernel
theorem dX7_reasonAgainst_44 : decode cX7_reasonAgainst 44 = .ok (.aload_n 0, 1) := by decide +kernel
theorem dX7_reasonAgainst_45 : decode cX7_reasonAgainst 45 = .ok (.getfield 34, 3) := by decide +kernel
theorem dX7_reasonAgainst_48 : decode cX7_reasonAgainst 48 = .ok (.iload_n 3, 1) := by decide +kernel
theorem dX7_reasonAgainst_49 : decode cX7_reasonAgainst 49 = .ok (.if_icmp .ne 7, 3) := by decide +kernel
theorem dX7_reasonAgainst_52 : decode cX7_reasonAgainst 52 = .ok (.iconst 5, 1) := by decide +kernel
theorem dX7_reasonAgainst_53 : decode cX7_reasonAgainst 53 = .ok (.goto 4, 3) := by decide +kernel
theorem dX7_reasonAgainst_56 : decode cX7_reasonAgainst 56 = .ok (.iconst 0, 1) := by decide +kernel
theorem dX7_reasonAgainst_57 : decode cX7_reasonAgainst 57 = .ok (.ireturn, 1) := by decide +kernel
theorem dX7_reasonAgainst_58 : decode cX7_reasonAgainst 58 = .ok (.aload_n 0, 1) := by decide +kernel
theorem dX7_reasonAgainst_59 : decode cX7_reasonAgainst 59 = .ok (.getfield 25, 3) := by decide +kernel
theorem dX7_reasonAgainst_62 : decode cX7_reasonAgainst 62 = .ok (.ifCond .ne 8, 3) := by decide +kernel
theorem dX7_reasonAgainst_65 : decode cX7_reasonAgainst 65 = .ok (.bipush 6, 2) := by decide +kernel
theorem dX7_reasonAgainst_67 : decode cX7_reasonAgainst 67 = .ok (.goto 4, 3) := by decide +kernel
theorem dX7_reasonAgainst_70 : decode cX7_reasonAgainst 70 = .ok (.iconst 0, 1) := by decide +kernel
theorem dX7_reasonAgainst_71 : decode cX7_reasonAgainst 71 = .ok (.ireturn, 1) := by decide +kernel
theorem dX7_reasonAgainst_72 : decode cX7_reasonAgainst 72 = .ok (.aload_n 0, 1) := by decide +kernel
theorem dX7_reasonAgainst_73 : decode cX7_reasonAgainst 73 = .ok (.getfield 37, 3) := by decide +kernel
theorem dX7_reasonAgainst_76 : decode cX7_reasonAgainst 76 = .ok (.bipush 99, 2) := by decide +kernel
theorem dX7_reasonAgainst_78 : decode cX7_reasonAgainst 78 = .ok (.if_icmp .lt 8, 3) := by decide +kernel
theorem dX7_reasonAgainst_81 : decode cX7_reasonAgainst 81 = .ok (.bipush 7, 2) := by decide +kernel
theorem dX7_reasonAgainst_83 : decode cX7_reasonAgainst 83 = .ok (.goto 4, 3) := by decide +kernel
theorem dX7_reasonAgainst_86 : decode cX7_reasonAgainst 86 = .ok (.iconst 0, 1) := by decide +kernel
theorem dX7_reasonAgainst_87 : decode cX7_reasonAgainst 87 = .ok (.ireturn, 1) := by decide +kernel
set_option maxRecDepth 20000 in
theorem ggX7_reasonAgainstTouching_X7_isThere : GoodIn wsX7_reasonAgainstTouching wsX7_isThere := goodIn_r _ [8, 9, 13, 14, 15, 16, 17, 18, 19, 20, 21, 22, 23, 24] (by decide +kernel) (by decide +kernel)
set_option maxRecDepth 20000 in
theorem gX7_reasonAgainstTouching_X7_isThere : GoodIn wsX7_reasonAgainstTouching (wsV RX7 63 RX7 yX7_isThere wsX7_isThere) := goodIn_app (goodIn_of _ (by decide +kernel)) ggX7_reasonAgainstTouching_X7_isThere
set_option maxRecDepth 20000 in
theorem ggX7_reasonAgainstTouching_X8_hasBit : GoodIn wsX7_reasonAgainstTouching wsX8_hasBit := goodIn_r _ [12] (by decide +kernel) (by decide +kernel)
set_option maxRecDepth 20000 in
theorem gX7_reasonAgainstTouching_X8_hasBit_n66 : GoodIn wsX7_reasonAgainstTouching (wsX8_hasBit) := ggX7_reasonAgainstTouching_X8_hasBit
theorem dX7_reasonAgainstTouching_0 : decode cX7_reasonAgainstTouching 0 = .ok (.aload_n 0, 1) := by decide +kernel
theorem dX7_reasonAgainstTouching_1 : decode cX7_reasonAgainstTouching 1 = .ok (.iload_n 2, 1) := by decide +kernel
theorem dX7_reasonAgainstTouching_2 : decode cX7_reasonAgainstTouching 2 = .ok (.invokevirtual 63, 3) := by decide +kernel
theorem dX7_reasonAgainstTouching_5 : decode cX7_reasonAgainstTouching 5 = .ok (.ifCond .ne 5, 3) := by decide +kernel
theorem dX7_reasonAgainstTouching_8 : decode cX7_reasonAgainstTouching 8 = .ok (.iconst 1, 1) := by decide +kernel
theorem dX7_reasonAgainstTouching_9 : decode cX7_reasonAgainstTouching 9 = .ok (.ireturn, 1) := by decide +kernel
theorem dX7_reasonAgainstTouching_10 : decode cX7_reasonAgainstTouching 10 = .ok (.aload_n 0, 1) := by decide +kernel
theorem dX7_reasonAgainstTouching_11 : decode cX7_reasonAgainstTouching 11 = .ok (.getfield 28, 3) := by decide +kernel
theorem dX7_reasonAgainstTouching_14 : decode cX7_reasonAgainstTouching 14 = .ok (.iload_n 2, 1) := by decide +kernel
theorem dX7_reasonAgainstTouching_15 : decode cX7_reasonAgainstTouching 15 = .ok (.invokestatic 66, 3) := by decide +kernel
theorem dX7_reasonAgainstTouching_18 : decode cX7_reasonAgainstTouching 18 = .ok (.iload_n 1, 1) := by decide +kernel
theorem dX7_reasonAgainstTouching_19 : decode cX7_reasonAgainstTouching 19 = .ok (.ifCond .ne 7, 3) := by decide +kernel
theorem dX7_reasonAgainstTouching_22 : decode cX7_reasonAgainstTouching 22 = .ok (.iconst 1, 1) := by decide +kernel
theorem dX7_reasonAgainstTouching_23 : decode cX7_reasonAgainstTouching 23 = .ok (.goto 4, 3) := by decide +kernel
theorem dX7_reasonAgainstTouching_26 : decode cX7_reasonAgainstTouching 26 = .ok (.iconst 0, 1) := by decide +kernel
theorem dX7_reasonAgainstTouching_27 : decode cX7_reasonAgainstTouching 27 = .ok (.if_icmp .ne 5, 3) := by decide +kernel
theorem dX7_reasonAgainstTouching_30 : decode cX7_reasonAgainstTouching 30 = .ok (.iconst 2, 1) := by decide +kernel
theorem dX7_reasonAgainstTouching_31 : decode cX7_reasonAgainstTouching 31 = .ok (.ireturn, 1) := by decide +kernel
theorem dX7_reasonAgainstTouching_32 : decode cX7_reasonAgainstTouching 32 = .ok (.iload_n 1, 1) := by decide +kernel
theorem dX7_reasonAgainstTouching_33 : decode cX7_reasonAgainstTouching 33 = .ok (.iconst 2, 1) := by decide +kernel
theorem dX7_reasonAgainstTouching_34 : decode cX7_reasonAgainstTouching 34 = .ok (.if_icmp .ne 15, 3) := by decide +kernel
theorem dX7_reasonAgainstTouching_37 : decode cX7_reasonAgainstTouching 37 = .ok (.aload_n 0, 1) := by decide +kernel
theorem dX7_reasonAgainstTouching_38 : decode cX7_reasonAgainstTouching 38 = .ok (.getfield 9, 3) := by decide +kernel
theorem dX7_reasonAgainstTouching_41 : decode cX7_reasonAgainstTouching 41 = .ok (.iload_n 2, 1) := by decide +kernel
theorem dX7_reasonAgainstTouching_42 : decode cX7_reasonAgainstTouching 42 = .ok (.iaload, 1) := by decide +kernel
theorem dX7_reasonAgainstTouching_43 : decode cX7_reasonAgainstTouching 43 = .ok (.iload_n 3, 1) := by decide +kernel
theorem dX7_reasonAgainstTouching_44 : decode cX7_reasonAgainstTouching 44 = .ok (.if_icmp .ne 5, 3) := by decide +kernel
theorem dX7_reasonAgainstTouching_47 : decode cX7_reasonAgainstTouching 47 = .ok (.iconst 3, 1) := by decide +kernel
theorem dX7_reasonAgainstTouching_48 : decode cX7_reasonAgainstTouching 48 = .ok (.ireturn, 1) := by decide +kernel
theorem dX7_reasonAgainstTouching_49 : decode cX7_reasonAgainstTouching 49 = .ok (.iload_n 1, 1) := by decide +kernel
theorem dX7_reasonAgainstTouching_50 : decode cX7_reasonAgainstTouching 50 = .ok (.ifCond .ne 14, 3) := by decide +kernel
theorem dX7_reasonAgainstTouching_53 : decode cX7_reasonAgainstTouching 53 = .ok (.aload_n 0, 1) := by decide +kernel
theorem dX7_reasonAgainstTouching_54 : decode cX7_reasonAgainstTouching 54 = .ok (.getfield 21, 3) := by decide +kernel
theorem dX7_reasonAgainstTouching_57 : decode cX7_reasonAgainstTouching 57 = .ok (.ifCond .gt 7, 3) := by decide +kernel
theorem dX7_reasonAgainstTouching_60 : decode cX7_reasonAgainstTouching 60 = .ok (.iconst 4, 1) := by decide +kernel
theorem dX7_reasonAgainstTouching_61 : decode cX7_reasonAgainstTouching 61 = .ok (.goto 4, 3) := by decide +kernel
theorem dX7_reasonAgainstTouching_64 : decode cX7_reasonAgainstTouching 64 = .ok (.iconst 0, 1) := by decide +kernel
theorem dX7_reasonAgainstTouching_65 : decode cX7_reasonAgainstTouching 65 = .ok (.ireturn, 1) := by decide +kernel
set_option maxRecDepth 20000 in
theorem ggX7_carryOut_X8_withBit : GoodIn wsX7_carryOut wsX8_withBit := goodIn_r _ [8] (by decide +kernel) (by decide +kernel)
set_option maxRecDepth 20000 in
theorem gX7_carryOut_X8_withBit_n53 : GoodIn wsX7_carryOut (wsX8_withBit) := ggX7_carryOut_X8_withBit
set_option maxRecDepth 20000 in
theorem ggX7_carryOut_X7_turnByHand : GoodIn wsX7_carryOut wsX7_turnByHand := goodIn_r _ [13, 14, 15, 16, 17, 12, 18, 19, 59, 60, 61, 62, 63, 64, 65, 66, 67, 68, 69, 70] (by decide +kernel) (by decide +kernel)
set_option maxRecDepth 20000 in
theorem gX7_carryOut_X7_turnByHand : GoodIn wsX7_carryOut (wsV RX7 85 RX7 yX7_turnByHand wsX7_turnByHand) := goodIn_app (goodIn_of _ (by decide +kernel)) ggX7_carryOut_X7_turnByHand
set_option maxRecDepth 20000 in
theorem ggX7_carryOut_X7_wouldCarry : GoodIn wsX7_carryOut wsX7_wouldCarry := goodIn_r _ [23, 24, 25, 26, 12, 27, 14, 15, 16, 17, 18, 19, 28, 7, 29, 30, 31, 32, 33, 6, 8, 34, 35, 36, 37, 38, 39, 40, 41, 42, 43, 44, 59, 60, 61, 62, 63, 64, 65, 66, 67, 68, 69, 70] (by decide +kernel) (by decide +kernel)
set_option maxRecDepth 20000 in
theorem gX7_carryOut_X7_wouldCarry : GoodIn wsX7_carryOut (wsV RX7 89 RX7 yX7_wouldCarry wsX7_wouldCarry) := goodIn_app (goodIn_of _ (by decide +kernel)) ggX7_carryOut_X7_wouldCarry
set_option maxRecDepth 20000 in
theorem ggX7_carryOut_X7_turnVanes : GoodIn wsX7_carryOut wsX7_turnVanes := goodIn_r _ [48, 1, 14, 49, 50, 31, 32, 33, 51, 52, 53, 15, 16, 17, 12, 18, 19, 54, 7, 55, 56, 57, 58, 59, 60, 61, 62, 63, 64, 65, 66, 67, 68, 69, 70] (by decide +kernel) (by decide +kernel)
set_option maxRecDepth 20000 in
theorem gX7_carryOut_X7_turnVanes : GoodIn wsX7_carryOut (wsV RX7 92 RX7 yX7_turnVanes wsX7_turnVanes) := goodIn_app (goodIn_of _ (by decide +kernel)) ggX7_carryOut_X7_turnVanes
theorem dX7_carryOut_0 : decode cX7_carryOut 0 = .ok (.iload_n 1, 1) := by decide +kernel
theorem dX7_carryOut_1 : decode cX7_carryOut 1 = .ok (.tableswitch 114 0 4 #[35, 61, 77, 86, 94], 35) := by decide +kernel
theorem dX7_carryOut_36 : decode cX7_carryOut 36 = .ok (.aload_n 0, 1) := by decide +kernel
theorem dX7_carryOut_37 : decode cX7_carryOut 37 = .ok (.aload_n 0, 1) := by decide +kernel
theorem dX7_carryOut_38 : decode cX7_carryOut 38 = .ok (.getfield 28, 3) := by decide +kernel
theorem dX7_carryOut_41 : decode cX7_carryOut 41 = .ok (.iload_n 2, 1) := by decide +kernel
theorem dX7_carryOut_42 : decode cX7_carryOut 42 = .ok (.iconst 1, 1) := by decide +kernel
theorem dX7_carryOut_43 : decode cX7_carryOut 43 = .ok (.invokestatic 53, 3) := by decide +kernel
theorem dX7_carryOut_46 : decode cX7_carryOut 46 = .ok (.putfield 28, 3) := by decide +kernel
theorem dX7_carryOut_49 : decode cX7_carryOut 49 = .ok (.aload_n 0, 1) := by decide +kernel
theorem dX7_carryOut_50 : decode cX7_carryOut 50 = .ok (.dup, 1) := by decide +kernel
theorem dX7_carryOut_51 : decode cX7_carryOut 51 = .ok (.getfield 21, 3) := by decide +kernel
theorem dX7_carryOut_54 : decode cX7_carryOut 54 = .ok (.iconst 1, 1) := by decide +kernel
theorem dX7_carryOut_55 : decode cX7_carryOut 55 = .ok (.isub, 1) := by decide +kernel
theorem dX7_carryOut_56 : decode cX7_carryOut 56 = .ok (.putfield 21, 3) := by decide +kernel
theorem dX7_carryOut_59 : decode cX7_carryOut 59 = .ok (.goto 74, 3) := by decide +kernel
theorem dX7_carryOut_62 : decode cX7_carryOut 62 = .ok (.aload_n 0, 1) := by decide +kernel
theorem dX7_carryOut_63 : decode cX7_carryOut 63 = .ok (.aload_n 0, 1) := by decide +kernel
theorem dX7_carryOut_64 : decode cX7_carryOut 64 = .ok (.getfield 28, 3) := by decide +kernel
theorem dX7_carryOut_67 : decode cX7_carryOut 67 = .ok (.iload_n 2, 1) := by decide +kernel
theorem dX7_carryOut_68 : decode cX7_carryOut 68 = .ok (.iconst 0, 1) := by decide +kernel
theorem dX7_carryOut_69 : decode cX7_carryOut 69 = .ok (.invokestatic 53, 3) := by decide +kernel
theorem dX7_carryOut_72 : decode cX7_carryOut 72 = .ok (.putfield 28, 3) := by decide +kernel
theorem dX7_carryOut_75 : decode cX7_carryOut 75 = .ok (.goto 58, 3) := by decide +kernel
theorem dX7_carryOut_78 : decode cX7_carryOut 78 = .ok (.aload_n 0, 1) := by decide +kernel
theorem dX7_carryOut_79 : decode cX7_carryOut 79 = .ok (.iload_n 2, 1) := by decide +kernel
theorem dX7_carryOut_80 : decode cX7_carryOut 80 = .ok (.iload_n 3, 1) := by decide +kernel
theorem dX7_carryOut_81 : decode cX7_carryOut 81 = .ok (.invokevirtual 85, 3) := by decide +kernel
theorem dX7_carryOut_84 : decode cX7_carryOut 84 = .ok (.goto 49, 3) := by decide +kernel
theorem dX7_carryOut_87 : decode cX7_carryOut 87 = .ok (.aload_n 0, 1) := by decide +kernel
theorem dX7_carryOut_88 : decode cX7_carryOut 88 = .ok (.iload_n 3, 1) := by decide +kernel
theorem dX7_carryOut_89 : decode cX7_carryOut 89 = .ok (.putfield 34, 3) := by decide +kernel
theorem dX7_carryOut_92 : decode cX7_carryOut 92 = .ok (.goto 41, 3) := by decide +kernel
theorem dX7_carryOut_95 : decode cX7_carryOut 95 = .ok (.aload_n 0, 1) := by decide +kernel
theorem dX7_carryOut_96 : decode cX7_carryOut 96 = .ok (.aload_n 0, 1) := by decide +kernel
theorem dX7_carryOut_97 : decode cX7_carryOut 97 = .ok (.getfield 31, 3) := by decide +kernel
theorem dX7_carryOut_100 : decode cX7_carryOut 100 = .ok (.iload_n 3, 1) := by decide +kernel
theorem dX7_carryOut_101 : decode cX7_carryOut 101 = .ok (.aload_n 0, 1) := by decide +kernel
theorem dX7_carryOut_102 : decode cX7_carryOut 102 = .ok (.iload_n 3, 1) := by decide +kernel
theorem dX7_carryOut_103 : decode cX7_carryOut 103 = .ok (.invokevirtual 89, 3) := by decide +kernel
theorem dX7_carryOut_106 : decode cX7_carryOut 106 = .ok (.invokestatic 53, 3) := by decide +kernel
theorem dX7_carryOut_109 : decode cX7_carryOut 109 = .ok (.putfield 31, 3) := by decide +kernel
theorem dX7_carryOut_112 : decode cX7_carryOut 112 = .ok (.goto 21, 3) := by decide +kernel
theorem dX7_carryOut_115 : decode cX7_carryOut 115 = .ok (.aload_n 0, 1) := by decide +kernel
theorem dX7_carryOut_116 : decode cX7_carryOut 116 = .ok (.aload_n 0, 1) := by decide +kernel
theorem dX7_carryOut_117 : decode cX7_carryOut 117 = .ok (.getfield 34, 3) := by decide +kernel
theorem dX7_carryOut_120 : decode cX7_carryOut 120 = .ok (.invokevirtual 92, 3) := by decide +kernel
theorem dX7_carryOut_123 : decode cX7_carryOut 123 = .ok (.aload_n 0, 1) := by decide +kernel
theorem dX7_carryOut_124 : decode cX7_carryOut 124 = .ok (.dup, 1) := by decide +kernel
theorem dX7_carryOut_125 : decode cX7_carryOut 125 = .ok (.getfield 37, 3) := by decide +kernel
theorem dX7_carryOut_128 : decode cX7_carryOut 128 = .ok (.iconst 1, 1) := by decide +kernel
theorem dX7_carryOut_129 : decode cX7_carryOut 129 = .ok (.iadd, 1) := by decide +kernel
theorem dX7_carryOut_130 : decode cX7_carryOut 130 = .ok (.putfield 37, 3) := by decide +kernel
theorem dX7_carryOut_133 : decode cX7_carryOut 133 = .ok (.return_, 1) := by decide +kernel
set_option maxRecDepth 20000 in
theorem ggX7_turnByHand_X7_isThere : GoodIn wsX7_turnByHand wsX7_isThere := goodIn_r _ [6, 7, 8, 9, 10, 11, 12, 13, 14, 15, 16, 17, 18, 19] (by decide +kernel) (by decide +kernel)
set_option maxRecDepth 20000 in
theorem gX7_turnByHand_X7_isThere : GoodIn wsX7_turnByHand (wsV RX7 63 RX7 yX7_isThere wsX7_isThere) := goodIn_app (goodIn_of _ (by decide +kernel)) ggX7_turnByHand_X7_isThere
theorem dX7_turnByHand_0 : decode cX7_turnByHand 0 = .ok (.aload_n 0, 1) := by decide +kernel
theorem dX7_turnByHand_1 : decode cX7_turnByHand 1 = .ok (.iload_n 1, 1) := by decide +kernel
theorem dX7_turnByHand_2 : decode cX7_turnByHand 2 = .ok (.invokevirtual 63, 3) := by decide +kernel
theorem dX7_turnByHand_5 : decode cX7_turnByHand 5 = .ok (.ifCond .eq 10, 3) := by decide +kernel
theorem dX7_turnByHand_8 : decode cX7_turnByHand 8 = .ok (.aload_n 0, 1) := by decide +kernel
theorem dX7_turnByHand_9 : decode cX7_turnByHand 9 = .ok (.getfield 9, 3) := by decide +kernel
theorem dX7_turnByHand_12 : decode cX7_turnByHand 12 = .ok (.iload_n 1, 1) := by decide +kernel
theorem dX7_turnByHand_13 : decode cX7_turnByHand 13 = .ok (.iload_n 2, 1) := by decide +kernel
theorem dX7_turnByHand_14 : decode cX7_turnByHand 14 = .ok (.iastore, 1) := by decide +kernel
theorem dX7_turnByHand_15 : decode cX7_turnByHand 15 = .ok (.return_, 1) := by decide +kernel
set_option maxRecDepth 20000 in
theorem ggX7_turnVanes_X7_isThere : GoodIn wsX7_turnVanes wsX7_isThere := goodIn_r _ [15, 16, 23, 24, 25, 26, 27, 28, 29, 30, 31, 32, 33, 34] (by decide +kernel) (by decide +kernel)
set_option maxRecDepth 20000 in
theorem gX7_turnVanes_X7_isThere : GoodIn wsX7_turnVanes (wsV RX7 63 RX7 yX7_isThere wsX7_isThere) := goodIn_app (goodIn_of _ (by decide +kernel)) ggX7_turnVanes_X7_isThere
set_option maxRecDepth 20000 in
theorem ggX7_turnVanes_X8_hasBit : GoodIn wsX7_turnVanes wsX8_hasBit := goodIn_r _ [19] (by decide +kernel) (by decide +kernel)
set_option maxRecDepth 20000 in
theorem gX7_turnVanes_X8_hasBit_n66 : GoodIn wsX7_turnVanes (wsX8_hasBit) := ggX7_turnVanes_X8_hasBit
set_option maxRecDepth 20000 in
theorem ggX7_turnVanes_X7_nearer : GoodIn wsX7_turnVanes wsX7_nearer := goodIn_r _ [22] (by decide +kernel) (by decide +kernel)
set_option maxRecDepth 20000 in
theorem gX7_turnVanes_X7_nearer : GoodIn wsX7_turnVanes (va_wsS RX7 96 yX7_nearer wsX7_nearer) := goodIn_app (goodIn_of _ (by decide +kernel)) ggX7_turnVanes_X7_nearer
theorem dX7_turnVanes_0 : decode cX7_turnVanes 0 = .ok (.iconst 0, 1) := by decide +kernel
theorem dX7_turnVanes_1 : decode cX7_turnVanes 1 = .ok (.istore_n 2, 1) := by decide +kernel
theorem dX7_turnVanes_2 : decode cX7_turnVanes 2 = .ok (.iload_n 2, 1) := by decide +kernel
theorem dX7_turnVanes_3 : decode cX7_turnVanes 3 = .ok (.bipush 7, 2) := by decide +kernel
theorem dX7_turnVanes_5 : decode cX7_turnVanes 5 = .ok (.if_icmp .ge 97, 3) := by decide +kernel
theorem dX7_turnVanes_8 : decode cX7_turnVanes 8 = .ok (.aload_n 0, 1) := by decide +kernel
theorem dX7_turnVanes_9 : decode cX7_turnVanes 9 = .ok (.iload_n 2, 1) := by decide +kernel
theorem dX7_turnVanes_10 : decode cX7_turnVanes 10 = .ok (.invokevirtual 63, 3) := by decide +kernel
theorem dX7_turnVanes_13 : decode cX7_turnVanes 13 = .ok (.ifCond .ne 6, 3) := by decide +kernel
theorem dX7_turnVanes_16 : decode cX7_turnVanes 16 = .ok (.goto 80, 3) := by decide +kernel
theorem dX7_turnVanes_19 : decode cX7_turnVanes 19 = .ok (.aload_n 0, 1) := by decide +kernel
theorem dX7_turnVanes_20 : decode cX7_turnVanes 20 = .ok (.getfield 28, 3) := by decide +kernel
theorem dX7_turnVanes_23 : decode cX7_turnVanes 23 = .ok (.iload_n 2, 1) := by decide +kernel
theorem dX7_turnVanes_24 : decode cX7_turnVanes 24 = .ok (.invokestatic 66, 3) := by decide +kernel
theorem dX7_turnVanes_27 : decode cX7_turnVanes 27 = .ok (.ifCond .eq 51, 3) := by decide +kernel
theorem dX7_turnVanes_30 : decode cX7_turnVanes 30 = .ok (.aload_n 0, 1) := by decide +kernel
theorem dX7_turnVanes_31 : decode cX7_turnVanes 31 = .ok (.getfield 9, 3) := by decide +kernel
theorem dX7_turnVanes_34 : decode cX7_turnVanes 34 = .ok (.iload_n 2, 1) := by decide +kernel
theorem dX7_turnVanes_35 : decode cX7_turnVanes 35 = .ok (.iaload, 1) := by decide +kernel
theorem dX7_turnVanes_36 : decode cX7_turnVanes 36 = .ok (.iload_n 1, 1) := by decide +kernel
theorem dX7_turnVanes_37 : decode cX7_turnVanes 37 = .ok (.if_icmp .eq 41, 3) := by decide +kernel
theorem dX7_turnVanes_40 : decode cX7_turnVanes 40 = .ok (.aload_n 0, 1) := by decide +kernel
theorem dX7_turnVanes_41 : decode cX7_turnVanes 41 = .ok (.getfield 9, 3) := by decide +kernel
theorem dX7_turnVanes_44 : decode cX7_turnVanes 44 = .ok (.iload_n 2, 1) := by decide +kernel
theorem dX7_turnVanes_45 : decode cX7_turnVanes 45 = .ok (.aload_n 0, 1) := by decide +kernel
theorem dX7_turnVanes_46 : decode cX7_turnVanes 46 = .ok (.getfield 9, 3) := by decide +kernel
theorem dX7_turnVanes_49 : decode cX7_turnVanes 49 = .ok (.iload_n 2, 1) := by decide +kernel
theorem dX7_turnVanes_50 : decode cX7_turnVanes 50 = .ok (.iaload, 1) := by decide +kernel
theorem dX7_turnVanes_51 : decode cX7_turnVanes 51 = .ok (.iload_n 1, 1) := by decide +kernel
theorem dX7_turnVanes_52 : decode cX7_turnVanes 52 = .ok (.invokestatic 96, 3) := by decide +kernel
theorem dX7_turnVanes_55 : decode cX7_turnVanes 55 = .ok (.iastore, 1) := by decide +kernel
theorem dX7_turnVanes_56 : decode cX7_turnVanes 56 = .ok (.aload_n 0, 1) := by decide +kernel
theorem dX7_turnVanes_57 : decode cX7_turnVanes 57 = .ok (.getfield 15, 3) := by decide +kernel
theorem dX7_turnVanes_60 : decode cX7_turnVanes 60 = .ok (.iload_n 2, 1) := by decide +kernel
theorem dX7_turnVanes_61 : decode cX7_turnVanes 61 = .ok (.bipush 9, 2) := by decide +kernel
theorem dX7_turnVanes_63 : decode cX7_turnVanes 63 = .ok (.aload_n 0, 1) := by decide +kernel
theorem dX7_turnVanes_64 : decode cX7_turnVanes 64 = .ok (.getfield 15, 3) := by decide +kernel
theorem dX7_turnVanes_67 : decode cX7_turnVanes 67 = .ok (.iload_n 2, 1) := by decide +kernel
theorem dX7_turnVanes_68 : decode cX7_turnVanes 68 = .ok (.iaload, 1) := by decide +kernel
theorem dX7_turnVanes_69 : decode cX7_turnVanes 69 = .ok (.iconst 1, 1) := by decide +kernel
theorem dX7_turnVanes_70 : decode cX7_turnVanes 70 = .ok (.iadd, 1) := by decide +kernel
theorem dX7_turnVanes_71 : decode cX7_turnVanes 71 = .ok (.invokestatic 99, 3) := by decide +kernel
theorem dX7_turnVanes_74 : decode cX7_turnVanes 74 = .ok (.iastore, 1) := by decide +kernel
theorem dX7_turnVanes_75 : decode cX7_turnVanes 75 = .ok (.goto 21, 3) := by decide +kernel
theorem dX7_turnVanes_78 : decode cX7_turnVanes 78 = .ok (.aload_n 0, 1) := by decide +kernel
theorem dX7_turnVanes_79 : decode cX7_turnVanes 79 = .ok (.getfield 15, 3) := by decide +kernel
theorem dX7_turnVanes_82 : decode cX7_turnVanes 82 = .ok (.iload_n 2, 1) := by decide +kernel
theorem dX7_turnVanes_83 : decode cX7_turnVanes 83 = .ok (.iconst 0, 1) := by decide +kernel
theorem dX7_turnVanes_84 : decode cX7_turnVanes 84 = .ok (.aload_n 0, 1) := by decide +kernel
theorem dX7_turnVanes_85 : decode cX7_turnVanes 85 = .ok (.getfield 15, 3) := by decide +kernel
theorem dX7_turnVanes_88 : decode cX7_turnVanes 88 = .ok (.iload_n 2, 1) := by decide +kernel
theorem dX7_turnVanes_89 : decode cX7_turnVanes 89 = .ok (.iaload, 1) := by decide +kernel
theorem dX7_turnVanes_90 : decode cX7_turnVanes 90 = .ok (.iconst 1, 1) := by decide +kernel
theorem dX7_turnVanes_91 : decode cX7_turnVanes 91 = .ok (.isub, 1) := by decide +kernel
theorem dX7_turnVanes_92 : decode cX7_turnVanes 92 = .ok (.invokestatic 104, 3) := by decide +kernel
theorem dX7_turnVanes_95 : decode cX7_turnVanes 95 = .ok (.iastore, 1) := by decide +kernel
theorem dX7_turnVanes_96 : decode cX7_turnVanes 96 = .ok (.iinc 2 1, 3) := by decide +kernel
theorem dX7_turnVanes_99 : decode cX7_turnVanes 99 = .ok (.goto (-97), 3) := by decide +kernel
theorem dX7_turnVanes_102 : decode cX7_turnVanes 102 = .ok (.return_, 1) := by decide +kernel
theorem dX7_nearer_0 : decode cX7_nearer 0 = .ok (.iload_n 1, 1) := by decide +kernel
theorem dX7_nearer_1 : decode cX7_nearer 1 = .ok (.iload_n 0, 1) := by decide +kernel
theorem dX7_nearer_2 : decode cX7_nearer 2 = .ok (.isub, 1) := by decide +kernel
theorem dX7_nearer_3 : decode cX7_nearer 3 = .ok (.bipush 7, 2) := by decide +kernel
theorem dX7_nearer_5 : decode cX7_nearer 5 = .ok (.iand, 1) := by decide +kernel
theorem dX7_nearer_6 : decode cX7_nearer 6 = .ok (.istore_n 2, 1) := by decide +kernel
theorem dX7_nearer_7 : decode cX7_nearer 7 = .ok (.iload_n 2, 1) := by decide +kernel
theorem dX7_nearer_8 : decode cX7_nearer 8 = .ok (.iconst 4, 1) := by decide +kernel
theorem dX7_nearer_9 : decode cX7_nearer 9 = .ok (.if_icmp .gt 7, 3) := by decide +kernel
theorem dX7_nearer_12 : decode cX7_nearer 12 = .ok (.iconst 1, 1) := by decide +kernel
theorem dX7_nearer_13 : decode cX7_nearer 13 = .ok (.goto 4, 3) := by decide +kernel
theorem dX7_nearer_16 : decode cX7_nearer 16 = .ok (.iconst (-1), 1) := by decide +kernel
theorem dX7_nearer_17 : decode cX7_nearer 17 = .ok (.istore_n 3, 1) := by decide +kernel
theorem dX7_nearer_18 : decode cX7_nearer 18 = .ok (.iload_n 0, 1) := by decide +kernel
theorem dX7_nearer_19 : decode cX7_nearer 19 = .ok (.iload_n 3, 1) := by decide +kernel
theorem dX7_nearer_20 : decode cX7_nearer 20 = .ok (.iadd, 1) := by decide +kernel
theorem dX7_nearer_21 : decode cX7_nearer 21 = .ok (.bipush 7, 2) := by decide +kernel
theorem dX7_nearer_23 : decode cX7_nearer 23 = .ok (.iand, 1) := by decide +kernel
theorem dX7_nearer_24 : decode cX7_nearer 24 = .ok (.ireturn, 1) := by decide +kernel
