theorem dX9_init_0 : decode cX9_init 0 = .ok (.aload_n 0, 1) := by decide +kernel
theorem dX9_init_1 : decode cX9_init 1 = .ok (.invokespecial 1, 3) := by decide +kernel
theorem dX9_init_4 : decode cX9_init 4 = .ok (.aload_n 0, 1) := by decide +kernel
theorem dX9_init_5 : decode cX9_init 5 = .ok (.bipush 19, 2) := by decide +kernel
theorem dX9_init_7 : decode cX9_init 7 = .ok (.newarray .int, 2) := by decide +kernel
theorem dX9_init_9 : decode cX9_init 9 = .ok (.putfield 7, 3) := by decide +kernel
theorem dX9_init_12 : decode cX9_init 12 = .ok (.aload_n 0, 1) := by decide +kernel
theorem dX9_init_13 : decode cX9_init 13 = .ok (.bipush 19, 2) := by decide +kernel
theorem dX9_init_15 : decode cX9_init 15 = .ok (.newarray .int, 2) := by decide +kernel
theorem dX9_init_17 : decode cX9_init 17 = .ok (.putfield 13, 3) := by decide +kernel
theorem dX9_init_20 : decode cX9_init 20 = .ok (.aload_n 0, 1) := by decide +kernel
theorem dX9_init_21 : decode cX9_init 21 = .ok (.bipush 7, 2) := by decide +kernel
theorem dX9_init_23 : decode cX9_init 23 = .ok (.newarray .int, 2) := by decide +kernel
theorem dX9_init_25 : decode cX9_init 25 = .ok (.putfield 16, 3) := by decide +kernel
theorem dX9_init_28 : decode cX9_init 28 = .ok (.aload_n 0, 1) := by decide +kernel
theorem dX9_init_29 : decode cX9_init 29 = .ok (.bipush 16, 2) := by decide +kernel
theorem dX9_init_31 : decode cX9_init 31 = .ok (.newarray .int, 2) := by decide +kernel
theorem dX9_init_33 : decode cX9_init 33 = .ok (.putfield 19, 3) := by decide +kernel
theorem dX9_init_36 : decode cX9_init 36 = .ok (.aload_n 0, 1) := by decide +kernel
theorem dX9_init_37 : decode cX9_init 37 = .ok (.bipush 60, 2) := by decide +kernel
theorem dX9_init_39 : decode cX9_init 39 = .ok (.newarray .int, 2) := by decide +kernel
theorem dX9_init_41 : decode cX9_init 41 = .ok (.putfield 22, 3) := by decide +kernel
theorem dX9_init_44 : decode cX9_init 44 = .ok (.aload_n 0, 1) := by decide +kernel
theorem dX9_init_45 : decode cX9_init 45 = .ok (.sipush 256, 3) := by decide +kernel
theorem dX9_init_48 : decode cX9_init 48 = .ok (.newarray .int, 2) := by decide +kernel
theorem dX9_init_50 : decode cX9_init 50 = .ok (.putfield 25, 3) := by decide +kernel
theorem dX9_init_53 : decode cX9_init 53 = .ok (.aload_n 0, 1) := by decide +kernel
theorem dX9_init_54 : decode cX9_init 54 = .ok (.sipush 128, 3) := by decide +kernel
theorem dX9_init_57 : decode cX9_init 57 = .ok (.newarray .int, 2) := by decide +kernel
theorem dX9_init_59 : decode cX9_init 59 = .ok (.putfield 28, 3) := by decide +kernel
theorem dX9_init_62 : decode cX9_init 62 = .ok (.aload_n 0, 1) := by decide +kernel
theorem dX9_init_63 : decode cX9_init 63 = .ok (.sipush 128, 3) := by decide +kernel
theorem dX9_init_66 : decode cX9_init 66 = .ok (.newarray .int, 2) := by decide +kernel
theorem dX9_init_68 : decode cX9_init 68 = .ok (.putfield 31, 3) := by decide +kernel
theorem dX9_init_71 : decode cX9_init 71 = .ok (.aload_n 0, 1) := by decide +kernel
theorem dX9_init_72 : decode cX9_init 72 = .ok (.sipush 201, 3) := by decide +kernel
theorem dX9_init_75 : decode cX9_init 75 = .ok (.newarray .boolean, 2) := by decide +kernel
theorem dX9_init_77 : decode cX9_init 77 = .ok (.putfield 34, 3) := by decide +kernel
theorem dX9_init_80 : decode cX9_init 80 = .ok (.aload_n 0, 1) := by decide +kernel
theorem dX9_init_81 : decode cX9_init 81 = .ok (.bipush 9, 2) := by decide +kernel
theorem dX9_init_83 : decode cX9_init 83 = .ok (.newarray .long, 2) := by decide +kernel
theorem dX9_init_85 : decode cX9_init 85 = .ok (.putfield 38, 3) := by decide +kernel
theorem dX9_init_88 : decode cX9_init 88 = .ok (.aload_n 0, 1) := by decide +kernel
theorem dX9_init_89 : decode cX9_init 89 = .ok (.bipush 100, 2) := by decide +kernel
theorem dX9_init_91 : decode cX9_init 91 = .ok (.newarray .int, 2) := by decide +kernel
theorem dX9_init_93 : decode cX9_init 93 = .ok (.putfield 42, 3) := by decide +kernel
theorem dX9_init_96 : decode cX9_init 96 = .ok (.aload_n 0, 1) := by decide +kernel
theorem dX9_init_97 : decode cX9_init 97 = .ok (.iconst 2, 1) := by decide +kernel
theorem dX9_init_98 : decode cX9_init 98 = .ok (.newarray .boolean, 2) := by decide +kernel
theorem dX9_init_100 : decode cX9_init 100 = .ok (.putfield 45, 3) := by decide +kernel
theorem dX9_init_103 : decode cX9_init 103 = .ok (.aload_n 0, 1) := by decide +kernel
theorem dX9_init_104 : decode cX9_init 104 = .ok (.getfield 7, 3) := by decide +kernel
theorem dX9_init_107 : decode cX9_init 107 = .ok (.bipush 17, 2) := by decide +kernel
theorem dX9_init_109 : decode cX9_init 109 = .ok (.iconst 5, 1) := by decide +kernel
theorem dX9_init_110 : decode cX9_init 110 = .ok (.iastore, 1) := by decide +kernel
theorem dX9_init_111 : decode cX9_init 111 = .ok (.return_, 1) := by decide +kernel
theorem dX9_in_0 : decode cX9_in 0 = .ok (.iload_n 0, 1) := by decide +kernel
theorem dX9_in_1 : decode cX9_in 1 = .ok (.iload_n 1, 1) := by decide +kernel
theorem dX9_in_2 : decode cX9_in 2 = .ok (.if_icmp .lt 12, 3) := by decide +kernel
theorem dX9_in_5 : decode cX9_in 5 = .ok (.iload_n 0, 1) := by decide +kernel
theorem dX9_in_6 : decode cX9_in 6 = .ok (.iload_n 2, 1) := by decide +kernel
theorem dX9_in_7 : decode cX9_in 7 = .ok (.if_icmp .gt 7, 3) := by decide +kernel
theorem dX9_in_10 : decode cX9_in 10 = .ok (.iconst 1, 1) := by decide +kernel
theorem dX9_in_11 : decode cX9_in 11 = .ok (.goto 4, 3) := by decide +kernel
theorem dX9_in_14 : decode cX9_in 14 = .ok (.iconst 0, 1) := by decide +kernel
theorem dX9_in_15 : decode cX9_in 15 = .ok (.ireturn, 1) := by decide +kernel
theorem dX9_has_0 : decode cX9_has 0 = .ok (.iload_n 0, 1) := by decide +kernel
theorem dX9_has_1 : decode cX9_has 1 = .ok (.iload_n 1, 1) := by decide +kernel
theorem dX9_has_2 : decode cX9_has 2 = .ok (.ishr, 1) := by decide +kernel
theorem dX9_has_3 : decode cX9_has 3 = .ok (.iconst 1, 1) := by decide +kernel
theorem dX9_has_4 : decode cX9_has 4 = .ok (.iand, 1) := by decide +kernel
theorem dX9_has_5 : decode cX9_has 5 = .ok (.iconst 1, 1) := by decide +kernel
theorem dX9_has_6 : decode cX9_has 6 = .ok (.if_icmp .ne 7, 3) := by decide +kernel
theorem dX9_has_9 : decode cX9_has 9 = .ok (.iconst 1, 1) := by decide +kernel
theorem dX9_has_10 : decode cX9_has 10 = .ok (.goto 4, 3) := by decide +kernel
theorem dX9_has_13 : decode cX9_has 13 = .ok (.iconst 0, 1) := by decide +kernel
theorem dX9_has_14 : decode cX9_has 14 = .ok (.ireturn, 1) := by decide +kernel
theorem dX9_bits_0 : decode cX9_bits 0 = .ok (.iconst 0, 1) := by decide +kernel
theorem dX9_bits_1 : decode cX9_bits 1 = .ok (.istore_n 1, 1) := by decide +kernel
theorem dX9_bits_2 : decode cX9_bits 2 = .ok (.iconst 0, 1) := by decide +kernel
theorem dX9_bits_3 : decode cX9_bits 3 = .ok (.istore_n 2, 1) := by decide +kernel
theorem dX9_bits_4 : decode cX9_bits 4 = .ok (.iload_n 2, 1) := by decide +kernel
theorem dX9_bits_5 : decode cX9_bits 5 = .ok (.bipush 8, 2) := by decide +kernel
theorem dX9_bits_7 : decode cX9_bits 7 = .ok (.if_icmp .ge 17, 3) := by decide +kernel
theorem dX9_bits_10 : decode cX9_bits 10 = .ok (.iload_n 1, 1) := by decide +kernel
theorem dX9_bits_11 : decode cX9_bits 11 = .ok (.iload_n 0, 1) := by decide +kernel
theorem dX9_bits_12 : decode cX9_bits 12 = .ok (.iload_n 2, 1) := by decide +kernel
theorem dX9_bits_13 : decode cX9_bits 13 = .ok (.ishr, 1) := by decide +kernel
theorem dX9_bits_14 : decode cX9_bits 14 = .ok (.iconst 1, 1) := by decide +kernel
theorem dX9_bits_15 : decode cX9_bits 15 = .ok (.iand, 1) := by decide +kernel
theorem dX9_bits_16 : decode cX9_bits 16 = .ok (.iadd, 1) := by decide +kernel
theorem dX9_bits_17 : decode cX9_bits 17 = .ok (.istore_n 1, 1) := by decide +kernel
theorem dX9_bits_18 : decode cX9_bits 18 = .ok (.iinc 2 1, 3) := by decide +kernel
theorem dX9_bits_21 : decode cX9_bits 21 = .ok (.goto (-17), 3) := by decide +kernel
theorem dX9_bits_24 : decode cX9_bits 24 = .ok (.iload_n 1, 1) := by decide +kernel
theorem dX9_bits_25 : decode cX9_bits 25 = .ok (.ireturn, 1) := by decide +kernel
set_option maxRecDepth 20000 in
theorem ggX9_isThere_X9_in : GoodIn wsX9_isThere wsX9_in := goodIn_r _ [5] (by decide +kernel) (by decide +kernel)
set_option maxRecDepth 20000 in
theorem gX9_isThere_X9_in : GoodIn wsX9_isThere (va_wsS RX9 48 yX9_in wsX9_in) := goodIn_app (goodIn_of _ (by decide +kernel)) ggX9_isThere_X9_in
set_option maxRecDepth 20000 in
theorem ggX9_isThere_X9_has : GoodIn wsX9_isThere wsX9_has := goodIn_r _ [8] (by decide +kernel) (by decide +kernel)
set_option maxRecDepth 20000 in
theorem gX9_isThere_X9_has : GoodIn wsX9_isThere (va_wsS RX9 56 yX9_has wsX9_has) := goodIn_app (goodIn_of _ (by decide +kernel)) ggX9_isThere_X9_has
theorem dX9_isThere_0 : decode cX9_isThere 0 = .ok (.iload_n 1, 1) := by decide +kernel
theorem dX9_isThere_1 : decode cX9_isThere 1 = .ok (.iconst 0, 1) := by decide +kernel
theorem dX9_isThere_2 : decode cX9_isThere 2 = .ok (.bipush 6, 2) := by decide +kernel
theorem dX9_isThere_4 : decode cX9_isThere 4 = .ok (.invokestatic 48, 3) := by decide +kernel
theorem dX9_isThere_7 : decode cX9_isThere 7 = .ok (.ifCond .eq 18, 3) := by decide +kernel
theorem dX9_isThere_10 : decode cX9_isThere 10 = .ok (.aload_n 0, 1) := by decide +kernel
theorem dX9_isThere_11 : decode cX9_isThere 11 = .ok (.getfield 52, 3) := by decide +kernel
theorem dX9_isThere_14 : decode cX9_isThere 14 = .ok (.iload_n 1, 1) := by decide +kernel
theorem dX9_isThere_15 : decode cX9_isThere 15 = .ok (.invokestatic 56, 3) := by decide +kernel
theorem dX9_isThere_18 : decode cX9_isThere 18 = .ok (.ifCond .eq 7, 3) := by decide +kernel
theorem dX9_isThere_21 : decode cX9_isThere 21 = .ok (.iconst 1, 1) := by decide +kernel
theorem dX9_isThere_22 : decode cX9_isThere 22 = .ok (.goto 4, 3) := by decide +kernel
theorem dX9_isThere_25 : decode cX9_isThere 25 = .ok (.iconst 0, 1) := by decide +kernel
theorem dX9_isThere_26 : decode cX9_isThere 26 = .ok (.ireturn, 1) := by decide +kernel
theorem dX9_apartOf_0 : decode cX9_apartOf 0 = .ok (.iload_n 1, 1) := by decide +kernel
theorem dX9_apartOf_1 : decode cX9_apartOf 1 = .ok (.iload_n 0, 1) := by decide +kernel
theorem dX9_apartOf_2 : decode cX9_apartOf 2 = .ok (.isub, 1) := by decide +kernel
theorem dX9_apartOf_3 : decode cX9_apartOf 3 = .ok (.bipush 8, 2) := by decide +kernel
theorem dX9_apartOf_5 : decode cX9_apartOf 5 = .ok (.iadd, 1) := by decide +kernel
theorem dX9_apartOf_6 : decode cX9_apartOf 6 = .ok (.bipush 8, 2) := by decide +kernel
theorem dX9_apartOf_8 : decode cX9_apartOf 8 = .ok (.irem, 1) := by decide +kernel
theorem dX9_apartOf_9 : decode cX9_apartOf 9 = .ok (.istore_n 2, 1) := by decide +kernel
theorem dX9_apartOf_10 : decode cX9_apartOf 10 = .ok (.iload_n 2, 1) := by decide +kernel
theorem dX9_apartOf_11 : decode cX9_apartOf 11 = .ok (.iconst 4, 1) := by decide +kernel
theorem dX9_apartOf_12 : decode cX9_apartOf 12 = .ok (.if_icmp .le 10, 3) := by decide +kernel
theorem dX9_apartOf_15 : decode cX9_apartOf 15 = .ok (.bipush 8, 2) := by decide +kernel
theorem dX9_apartOf_17 : decode cX9_apartOf 17 = .ok (.iload_n 2, 1) := by decide +kernel
theorem dX9_apartOf_18 : decode cX9_apartOf 18 = .ok (.isub, 1) := by decide +kernel
theorem dX9_apartOf_19 : decode cX9_apartOf 19 = .ok (.goto 4, 3) := by decide +kernel
theorem dX9_apartOf_22 : decode cX9_apartOf 22 = .ok (.iload_n 2, 1) := by decide +kernel
theorem dX9_apartOf_23 : decode cX9_apartOf 23 = .ok (.ireturn, 1) := by decide +kernel
set_option maxRecDepth 20000 in
theorem ggX9_parish_X9_in : GoodIn wsX9_parish wsX9_in := goodIn_r _ [6] (by decide +kernel) (by decide +kernel)
set_option maxRecDepth 20000 in
theorem gX9_parish_X9_in : GoodIn wsX9_parish (va_wsS RX9 48 yX9_in wsX9_in) := goodIn_app (goodIn_of _ (by decide +kernel)) ggX9_parish_X9_in
set_option maxRecDepth 20000 in
theorem ggX9_parish_X9_bits : GoodIn wsX9_parish wsX9_bits := goodIn_r _ [9] (by decide +kernel) (by decide +kernel)
set_option maxRecDepth 20000 in
theorem gX9_parish_X9_bits : GoodIn wsX9_parish (va_wsS RX9 60 yX9_bits wsX9_bits) := goodIn_app (goodIn_of _ (by decide +kernel)) ggX9_parish_X9_bits
theorem dX9_parish_0 : decode cX9_parish 0 = .ok (.iload_n 1, 1) := by decide +kernel
theorem dX9_parish_1 : decode cX9_parish 1 = .ok (.iconst 0, 1) := by decide +kernel
theorem dX9_parish_2 : decode cX9_parish 2 = .ok (.bipush 6, 2) := by decide +kernel
theorem dX9_parish_4 : decode cX9_parish 4 = .ok (.invokestatic 48, 3) := by decide +kernel
theorem dX9_parish_7 : decode cX9_parish 7 = .ok (.ifCond .ne 5, 3) := by decide +kernel
theorem dX9_parish_10 : decode cX9_parish 10 = .ok (.iconst (-1), 1) := by decide +kernel
theorem dX9_parish_11 : decode cX9_parish 11 = .ok (.ireturn, 1) := by decide +kernel
theorem dX9_parish_12 : decode cX9_parish 12 = .ok (.iload_n 2, 1) := by decide +kernel
theorem dX9_parish_13 : decode cX9_parish 13 = .ok (.iconst 0, 1) := by decide +kernel
theorem dX9_parish_14 : decode cX9_parish 14 = .ok (.bipush 7, 2) := by decide +kernel
theorem dX9_parish_16 : decode cX9_parish 16 = .ok (.invokestatic 48, 3) := by decide +kernel
theorem dX9_parish_19 : decode cX9_parish 19 = .ok (.ifCond .eq 14, 3) := by decide +kernel
theorem dX9_parish_22 : decode cX9_parish 22 = .ok (.iload 4, 2) := by decide +kernel
theorem dX9_parish_24 : decode cX9_parish 24 = .ok (.iconst 0, 1) := by decide +kernel
theorem dX9_parish_25 : decode cX9_parish 25 = .ok (.bipush 9, 2) := by decide +kernel
theorem dX9_parish_27 : decode cX9_parish 27 = .ok (.invokestatic 48, 3) := by decide +kernel
theorem dX9_parish_30 : decode cX9_parish 30 = .ok (.ifCond .ne 6, 3) := by decide +kernel
theorem dX9_parish_33 : decode cX9_parish 33 = .ok (.bipush (-2), 2) := by decide +kernel
theorem dX9_parish_35 : decode cX9_parish 35 = .ok (.ireturn, 1) := by decide +kernel
theorem dX9_parish_36 : decode cX9_parish 36 = .ok (.aload_n 0, 1) := by decide +kernel
theorem dX9_parish_37 : decode cX9_parish 37 = .ok (.getfield 7, 3) := by decide +kernel
theorem dX9_parish_40 : decode cX9_parish 40 = .ok (.iload_n 1, 1) := by decide +kernel
theorem dX9_parish_41 : decode cX9_parish 41 = .ok (.iload_n 2, 1) := by decide +kernel
theorem dX9_parish_42 : decode cX9_parish 42 = .ok (.iastore, 1) := by decide +kernel
theorem dX9_parish_43 : decode cX9_parish 43 = .ok (.aload_n 0, 1) := by decide +kernel
theorem dX9_parish_44 : decode cX9_parish 44 = .ok (.getfield 7, 3) := by decide +kernel
theorem dX9_parish_47 : decode cX9_parish 47 = .ok (.bipush 7, 2) := by decide +kernel
theorem dX9_parish_49 : decode cX9_parish 49 = .ok (.iload_n 1, 1) := by decide +kernel
theorem dX9_parish_50 : decode cX9_parish 50 = .ok (.iadd, 1) := by decide +kernel
theorem dX9_parish_51 : decode cX9_parish 51 = .ok (.iload 4, 2) := by decide +kernel
theorem dX9_parish_53 : decode cX9_parish 53 = .ok (.iastore, 1) := by decide +kernel
theorem dX9_parish_54 : decode cX9_parish 54 = .ok (.aload_n 0, 1) := by decide +kernel
theorem dX9_parish_55 : decode cX9_parish 55 = .ok (.getfield 7, 3) := by decide +kernel
theorem dX9_parish_58 : decode cX9_parish 58 = .ok (.bipush 14, 2) := by decide +kernel
theorem dX9_parish_60 : decode cX9_parish 60 = .ok (.dup2, 1) := by decide +kernel
theorem dX9_parish_61 : decode cX9_parish 61 = .ok (.iaload, 1) := by decide +kernel
theorem dX9_parish_62 : decode cX9_parish 62 = .ok (.iconst 1, 1) := by decide +kernel
theorem dX9_parish_63 : decode cX9_parish 63 = .ok (.iload_n 1, 1) := by decide +kernel
theorem dX9_parish_64 : decode cX9_parish 64 = .ok (.ishl, 1) := by decide +kernel
theorem dX9_parish_65 : decode cX9_parish 65 = .ok (.iconst (-1), 1) := by decide +kernel
theorem dX9_parish_66 : decode cX9_parish 66 = .ok (.ixor, 1) := by decide +kernel
theorem dX9_parish_67 : decode cX9_parish 67 = .ok (.iand, 1) := by decide +kernel
theorem dX9_parish_68 : decode cX9_parish 68 = .ok (.iastore, 1) := by decide +kernel
theorem dX9_parish_69 : decode cX9_parish 69 = .ok (.aload_n 0, 1) := by decide +kernel
theorem dX9_parish_70 : decode cX9_parish 70 = .ok (.getfield 7, 3) := by decide +kernel
theorem dX9_parish_73 : decode cX9_parish 73 = .ok (.bipush 14, 2) := by decide +kernel
theorem dX9_parish_75 : decode cX9_parish 75 = .ok (.dup2, 1) := by decide +kernel
theorem dX9_parish_76 : decode cX9_parish 76 = .ok (.iaload, 1) := by decide +kernel
theorem dX9_parish_77 : decode cX9_parish 77 = .ok (.iload_n 3, 1) := by decide +kernel
theorem dX9_parish_78 : decode cX9_parish 78 = .ok (.ifCond .eq 9, 3) := by decide +kernel
theorem dX9_parish_81 : decode cX9_parish 81 = .ok (.iconst 1, 1) := by decide +kernel
theorem dX9_parish_82 : decode cX9_parish 82 = .ok (.iload_n 1, 1) := by decide +kernel
theorem dX9_parish_83 : decode cX9_parish 83 = .ok (.ishl, 1) := by decide +kernel
theorem dX9_parish_84 : decode cX9_parish 84 = .ok (.goto 4, 3) := by decide +kernel
theorem dX9_parish_87 : decode cX9_parish 87 = .ok (.iconst 0, 1) := by decide +kernel
theorem dX9_parish_88 : decode cX9_parish 88 = .ok (.ior, 1) := by decide +kernel
theorem dX9_parish_89 : decode cX9_parish 89 = .ok (.iastore, 1) := by decide +kernel
theorem dX9_parish_90 : decode cX9_parish 90 = .ok (.aload_n 0, 1) := by decide +kernel
theorem dX9_parish_91 : decode cX9_parish 91 = .ok (.dup, 1) := by decide +kernel
theorem dX9_parish_92 : decode cX9_parish 92 = .ok (.getfield 52, 3) := by decide +kernel
theorem dX9_parish_95 : decode cX9_parish 95 = .ok (.iconst 1, 1) := by decide +kernel
theorem dX9_parish_96 : decode cX9_parish 96 = .ok (.iload_n 1, 1) := by decide +kernel
theorem dX9_parish_97 : decode cX9_parish 97 = .ok (.ishl, 1) := by decide +kernel
theorem dX9_parish_98 : decode cX9_parish 98 = .ok (.ior, 1) := by decide +kernel
theorem dX9_parish_99 : decode cX9_parish 99 = .ok (.putfield 52, 3) := by decide +kernel
theorem dX9_parish_102 : decode cX9_parish 102 = .ok (.aload_n 0, 1) := by decide +kernel
theorem dX9_parish_103 : decode cX9_parish 103 = .ok (.getfield 52, 3) := by decide +kernel
theorem dX9_parish_106 : decode cX9_parish 106 = .ok (.invokestatic 60, 3) := by decide +kernel
theorem dX9_parish_109 : decode cX9_parish 109 = .ok (.ireturn, 1) := by decide +kernel
set_option maxRecDepth 20000 in
theorem ggX9_neighbours_X9_in : GoodIn wsX9_neighbours wsX9_in := goodIn_r _ [5] (by decide +kernel) (by decide +kernel)
set_option maxRecDepth 20000 in
theorem gX9_neighbours_X9_in : GoodIn wsX9_neighbours (va_wsS RX9 48 yX9_in wsX9_in) := goodIn_app (goodIn_of _ (by decide +kernel)) ggX9_neighbours_X9_in
set_option maxRecDepth 20000 in
theorem ggX9_neighbours_X9_bits : GoodIn wsX9_neighbours wsX9_bits := goodIn_r _ [8] (by decide +kernel) (by decide +kernel)
set_option maxRecDepth 20000 in
theorem gX9_neighbours_X9_bits : GoodIn wsX9_neighbours (va_wsS RX9 60 yX9_bits wsX9_bits) := goodIn_app (goodIn_of _ (by decide +kernel)) ggX9_neighbours_X9_bits
theorem dX9_neighbours_0 : decode cX9_neighbours 0 = .ok (.iload_n 1, 1) := by decide +kernel
theorem dX9_neighbours_1 : decode cX9_neighbours 1 = .ok (.iconst 0, 1) := by decide +kernel
theorem dX9_neighbours_2 : decode cX9_neighbours 2 = .ok (.bipush 6, 2) := by decide +kernel
theorem dX9_neighbours_4 : decode cX9_neighbours 4 = .ok (.invokestatic 48, 3) := by decide +kernel
theorem dX9_neighbours_7 : decode cX9_neighbours 7 = .ok (.ifCond .eq 18, 3) := by decide +kernel
theorem dX9_neighbours_10 : decode cX9_neighbours 10 = .ok (.iload_n 2, 1) := by decide +kernel
theorem dX9_neighbours_11 : decode cX9_neighbours 11 = .ok (.iconst 0, 1) := by decide +kernel
theorem dX9_neighbours_12 : decode cX9_neighbours 12 = .ok (.bipush 6, 2) := by decide +kernel
theorem dX9_neighbours_14 : decode cX9_neighbours 14 = .ok (.invokestatic 48, 3) := by decide +kernel
theorem dX9_neighbours_17 : decode cX9_neighbours 17 = .ok (.ifCond .eq 8, 3) := by decide +kernel
theorem dX9_neighbours_20 : decode cX9_neighbours 20 = .ok (.iload_n 1, 1) := by decide +kernel
theorem dX9_neighbours_21 : decode cX9_neighbours 21 = .ok (.iload_n 2, 1) := by decide +kernel
theorem dX9_neighbours_22 : decode cX9_neighbours 22 = .ok (.if_icmp .ne 5, 3) := by decide +kernel
theorem dX9_neighbours_25 : decode cX9_neighbours 25 = .ok (.iconst (-1), 1) := by decide +kernel
theorem dX9_neighbours_26 : decode cX9_neighbours 26 = .ok (.ireturn, 1) := by decide +kernel
theorem dX9_neighbours_27 : decode cX9_neighbours 27 = .ok (.aload_n 0, 1) := by decide +kernel
theorem dX9_neighbours_28 : decode cX9_neighbours 28 = .ok (.getfield 16, 3) := by decide +kernel
theorem dX9_neighbours_31 : decode cX9_neighbours 31 = .ok (.iload_n 1, 1) := by decide +kernel
theorem dX9_neighbours_32 : decode cX9_neighbours 32 = .ok (.dup2, 1) := by decide +kernel
theorem dX9_neighbours_33 : decode cX9_neighbours 33 = .ok (.iaload, 1) := by decide +kernel
theorem dX9_neighbours_34 : decode cX9_neighbours 34 = .ok (.iconst 1, 1) := by decide +kernel
theorem dX9_neighbours_35 : decode cX9_neighbours 35 = .ok (.iload_n 2, 1) := by decide +kernel
theorem dX9_neighbours_36 : decode cX9_neighbours 36 = .ok (.ishl, 1) := by decide +kernel
theorem dX9_neighbours_37 : decode cX9_neighbours 37 = .ok (.iconst (-1), 1) := by decide +kernel
theorem dX9_neighbours_38 : decode cX9_neighbours 38 = .ok (.ixor, 1) := by decide +kernel
theorem dX9_neighbours_39 : decode cX9_neighbours 39 = .ok (.iand, 1) := by decide +kernel
theorem dX9_neighbours_40 : decode cX9_neighbours 40 = .ok (.iastore, 1) := by decide +kernel
theorem dX9_neighbours_41 : decode cX9_neighbours 41 = .ok (.aload_n 0, 1) := by decide +kernel
theorem dX9_neighbours_42 : decode cX9_neighbours 42 = .ok (.getfield 16, 3) := by decide +kernel
theorem dX9_neighbours_45 : decode cX9_neighbours 45 = .ok (.iload_n 2, 1) := by decide +kernel
theorem dX9_neighbours_46 : decode cX9_neighbours 46 = .ok (.dup2, 1) := by decide +kernel
theorem dX9_neighbours_47 : decode cX9_neighbours 47 = .ok (.iaload, 1) := by decide +kernel
theorem dX9_neighbours_48 : decode cX9_neighbours 48 = .ok (.iconst 1, 1) := by decide +kernel
theorem dX9_neighbours_49 : decode cX9_neighbours 49 = .ok (.iload_n 1, 1) := by decide +kernel
theorem dX9_neighbours_50 : decode cX9_neighbours 50 = .ok (.ishl, 1) := by decide +kernel
theorem dX9_neighbours_51 : decode cX9_neighbours 51 = .ok (.iconst (-1), 1) := by decide +kernel
theorem dX9_neighbours_52 : decode cX9_neighbours 52 = .ok (.ixor, 1) := by decide +kernel
theorem dX9_neighbours_53 : decode cX9_neighbours 53 = .ok (.iand, 1) := by decide +kernel
theorem dX9_neighbours_54 : decode cX9_neighbours 54 = .ok (.iastore, 1) := by decide +kernel
theorem dX9_neighbours_55 : decode cX9_neighbours 55 = .ok (.aload_n 0, 1) := by decide +kernel
theorem dX9_neighbours_56 : decode cX9_neighbours 56 = .ok (.getfield 16, 3) := by decide +kernel
theorem dX9_neighbours_59 : decode cX9_neighbours 59 = .ok (.iload_n 1, 1) := by decide +kernel
theorem dX9_neighbours_60 : decode cX9_neighbours 60 = .ok (.dup2, 1) := by decide +kernel
theorem dX9_neighbours_61 : decode cX9_neighbours 61 = .ok (.iaload, 1) := by decide +kernel
theorem dX9_neighbours_62 : decode cX9_neighbours 62 = .ok (.iload_n 3, 1) := by decide +kernel
theorem dX9_neighbours_63 : decode cX9_neighbours 63 = .ok (.ifCond .eq 9, 3) := by decide +kernel
theorem dX9_neighbours_66 : decode cX9_neighbours 66 = .ok (.iconst 1, 1) := by decide +kernel
theorem dX9_neighbours_67 : decode cX9_neighbours 67 = .ok (.iload_n 2, 1) := by decide +kernel
theorem dX9_neighbours_68 : decode cX9_neighbours 68 = .ok (.ishl, 1) := by decide +kernel
theorem dX9_neighbours_69 : decode cX9_neighbours 69 = .ok (.goto 4, 3) := by decide +kernel
theorem dX9_neighbours_72 : decode cX9_neighbours 72 = .ok (.iconst 0, 1) := by decide +kernel
theorem dX9_neighbours_73 : decode cX9_neighbours 73 = .ok (.ior, 1) := by decide +kernel
theorem dX9_neighbours_74 : decode cX9_neighbours 74 = .ok (.iastore, 1) := by decide +kernel
theorem dX9_neighbours_75 : decode cX9_neighbours 75 = .ok (.aload_n 0, 1) := by decide +kernel
theorem dX9_neighbours_76 : decode cX9_neighbours 76 = .ok (.getfield 16, 3) := by decide +kernel
theorem dX9_neighbours_79 : decode cX9_neighbours 79 = .ok (.iload_n 2, 1) := by decide +kernel
theorem dX9_neighbours_80 : decode cX9_neighbours 80 = .ok (.dup2, 1) := by decide +kernel
theorem dX9_neighbours_81 : decode cX9_neighbours 81 = .ok (.iaload, 1) := by decide +kernel
theorem dX9_neighbours_82 : decode cX9_neighbours 82 = .ok (.iload_n 3, 1) := by decide +kernel
theorem dX9_neighbours_83 : decode cX9_neighbours 83 = .ok (.ifCond .eq 9, 3) := by decide +kernel
theorem dX9_neighbours_86 : decode cX9_neighbours 86 = .ok (.iconst 1, 1) := by decide +kernel
theorem dX9_neighbours_87 : decode cX9_neighbours 87 = .ok (.iload_n 1, 1) := by decide +kernel
theorem dX9_neighbours_88 : decode cX9_neighbours 88 = .ok (.ishl, 1) := by decide +kernel
theorem dX9_neighbours_89 : decode cX9_neighbours 89 = .ok (.goto 4, 3) := by decide +kernel
theorem dX9_neighbours_92 : decode cX9_neighbours 92 = .ok (.iconst 0, 1) := by decide +kernel
theorem dX9_neighbours_93 : decode cX9_neighbours 93 = .ok (.ior, 1) := by decide +kernel
theorem dX9_neighbours_94 : decode cX9_neighbours 94 = .ok (.iastore, 1) := by decide +kernel
theorem dX9_neighbours_95 : decode cX9_neighbours 95 = .ok (.iconst 0, 1) := by decide +kernel
theorem dX9_neighbours_96 : decode cX9_neighbours 96 = .ok (.istore 4, 2) := by decide +kernel
theorem dX9_neighbours_98 : decode cX9_neighbours 98 = .ok (.iconst 0, 1) := by decide +kernel
theorem dX9_neighbours_99 : decode cX9_neighbours 99 = .ok (.istore 5, 2) := by decide +kernel
theorem dX9_neighbours_101 : decode cX9_neighbours 101 = .ok (.iload 5, 2) := by decide +kernel
theorem dX9_neighbours_103 : decode cX9_neighbours 103 = .ok (.bipush 7, 2) := by decide +kernel
theorem dX9_neighbours_105 : decode cX9_neighbours 105 = .ok (.if_icmp .ge 24, 3) := by decide +kernel
theorem dX9_neighbours_108 : decode cX9_neighbours 108 = .ok (.iload 4, 2) := by decide +kernel
theorem dX9_neighbours_110 : decode cX9_neighbours 110 = .ok (.aload_n 0, 1) := by decide +kernel
theorem dX9_neighbours_111 : decode cX9_neighbours 111 = .ok (.getfield 16, 3) := by decide +kernel
theorem dX9_neighbours_114 : decode cX9_neighbours 114 = .ok (.iload 5, 2) := by decide +kernel
theorem dX9_neighbours_116 : decode cX9_neighbours 116 = .ok (.iaload, 1) := by decide +kernel
theorem dX9_neighbours_117 : decode cX9_neighbours 117 = .ok (.invokestatic 60, 3) := by decide +kernel
theorem dX9_neighbours_120 : decode cX9_neighbours 120 = .ok (.iadd, 1) := by decide +kernel
theorem dX9_neighbours_121 : decode cX9_neighbours 121 = .ok (.istore 4, 2) := by decide +kernel
theorem dX9_neighbours_123 : decode cX9_neighbours 123 = .ok (.iinc 5 1, 3) := by decide +kernel
theorem dX9_neighbours_126 : decode cX9_neighbours 126 = .ok (.goto (-25), 3) := by decide +kernel
theorem dX9_neighbours_129 : decode cX9_neighbours 129 = .ok (.iload 4, 2) := by decide +kernel
theorem dX9_neighbours_131 : decode cX9_neighbours 131 = .ok (.iconst 2, 1) := by decide +kernel
theorem dX9_neighbours_132 : decode cX9_neighbours 132 = .ok (.idiv, 1) := by decide +kernel
theorem dX9_neighbours_133 : decode cX9_neighbours 133 = .ok (.ireturn, 1) := by decide +kernel
set_option maxRecDepth 20000 in
theorem ggX9_weather_X9_in : GoodIn wsX9_weather wsX9_in := goodIn_r _ [5] (by decide +kernel) (by decide +kernel)
set_option maxRecDepth 20000 in
theorem gX9_weather_X9_in : GoodIn wsX9_weather (va_wsS RX9 48 yX9_in wsX9_in) := goodIn_app (goodIn_of _ (by decide +kernel)) ggX9_weather_X9_in
theorem dX9_weather_0 : decode cX9_weather 0 = .ok (.iload_n 1, 1) := by decide +kernel
theorem dX9_weather_1 : decode cX9_weather 1 = .ok (.iconst 0, 1) := by decide +kernel
theorem dX9_weather_2 : decode cX9_weather 2 = .ok (.bipush 7, 2) := by decide +kernel
theorem dX9_weather_4 : decode cX9_weather 4 = .ok (.invokestatic 48, 3) := by decide +kernel
theorem dX9_weather_7 : decode cX9_weather 7 = .ok (.ifCond .eq 13, 3) := by decide +kernel
theorem dX9_weather_10 : decode cX9_weather 10 = .ok (.iload_n 2, 1) := by decide +kernel
theorem dX9_weather_11 : decode cX9_weather 11 = .ok (.iconst 0, 1) := by decide +kernel
theorem dX9_weather_12 : decode cX9_weather 12 = .ok (.bipush 9, 2) := by decide +kernel
theorem dX9_weather_14 : decode cX9_weather 14 = .ok (.invokestatic 48, 3) := by decide +kernel
theorem dX9_weather_17 : decode cX9_weather 17 = .ok (.ifCond .ne 6, 3) := by decide +kernel
theorem dX9_weather_20 : decode cX9_weather 20 = .ok (.bipush (-2), 2) := by decide +kernel
theorem dX9_weather_22 : decode cX9_weather 22 = .ok (.ireturn, 1) := by decide +kernel
theorem dX9_weather_23 : decode cX9_weather 23 = .ok (.bipush 10, 2) := by decide +kernel
theorem dX9_weather_25 : decode cX9_weather 25 = .ok (.aload_n 0, 1) := by decide +kernel
theorem dX9_weather_26 : decode cX9_weather 26 = .ok (.getfield 7, 3) := by decide +kernel
theorem dX9_weather_29 : decode cX9_weather 29 = .ok (.bipush 16, 2) := by decide +kernel
theorem dX9_weather_31 : decode cX9_weather 31 = .ok (.iaload, 1) := by decide +kernel
theorem dX9_weather_32 : decode cX9_weather 32 = .ok (.imul, 1) := by decide +kernel
theorem dX9_weather_33 : decode cX9_weather 33 = .ok (.aload_n 0, 1) := by decide +kernel
theorem dX9_weather_34 : decode cX9_weather 34 = .ok (.getfield 7, 3) := by decide +kernel
theorem dX9_weather_37 : decode cX9_weather 37 = .ok (.bipush 17, 2) := by decide +kernel
theorem dX9_weather_39 : decode cX9_weather 39 = .ok (.iaload, 1) := by decide +kernel
theorem dX9_weather_40 : decode cX9_weather 40 = .ok (.iadd, 1) := by decide +kernel
theorem dX9_weather_41 : decode cX9_weather 41 = .ok (.istore_n 3, 1) := by decide +kernel
theorem dX9_weather_42 : decode cX9_weather 42 = .ok (.aload_n 0, 1) := by decide +kernel
theorem dX9_weather_43 : decode cX9_weather 43 = .ok (.getfield 7, 3) := by decide +kernel
theorem dX9_weather_46 : decode cX9_weather 46 = .ok (.bipush 16, 2) := by decide +kernel
theorem dX9_weather_48 : decode cX9_weather 48 = .ok (.iload_n 1, 1) := by decide +kernel
theorem dX9_weather_49 : decode cX9_weather 49 = .ok (.iastore, 1) := by decide +kernel
theorem dX9_weather_50 : decode cX9_weather 50 = .ok (.aload_n 0, 1) := by decide +kernel
theorem dX9_weather_51 : decode cX9_weather 51 = .ok (.getfield 7, 3) := by decide +kernel
theorem dX9_weather_54 : decode cX9_weather 54 = .ok (.bipush 17, 2) := by decide +kernel
theorem dX9_weather_56 : decode cX9_weather 56 = .ok (.iload_n 2, 1) := by decide +kernel
theorem dX9_weather_57 : decode cX9_weather 57 = .ok (.iastore, 1) := by decide +kernel
theorem dX9_weather_58 : decode cX9_weather 58 = .ok (.iload_n 3, 1) := by decide +kernel
theorem dX9_weather_59 : decode cX9_weather 59 = .ok (.ireturn, 1) := by decide +kernel
set_option maxRecDepth 20000 in
theorem ggX9_creed_X9_in : GoodIn wsX9_creed wsX9_in := goodIn_r _ [5] (by decide +kernel) (by decide +kernel)
set_option maxRecDepth 20000 in
theorem gX9_creed_X9_in : GoodIn wsX9_creed (va_wsS RX9 48 yX9_in wsX9_in) := goodIn_app (goodIn_of _ (by decide +kernel)) ggX9_creed_X9_in
theorem dX9_creed_0 : decode cX9_creed 0 = .ok (.iload_n 1, 1) := by decide +kernel
theorem dX9_creed_1 : decode cX9_creed 1 = .ok (.iconst 0, 1) := by decide +kernel
theorem dX9_creed_2 : decode cX9_creed 2 = .ok (.sipush 255, 3) := by decide +kernel
theorem dX9_creed_5 : decode cX9_creed 5 = .ok (.invokestatic 48, 3) := by decide +kernel
theorem dX9_creed_8 : decode cX9_creed 8 = .ok (.ifCond .ne 6, 3) := by decide +kernel
theorem dX9_creed_11 : decode cX9_creed 11 = .ok (.bipush (-2), 2) := by decide +kernel
theorem dX9_creed_13 : decode cX9_creed 13 = .ok (.ireturn, 1) := by decide +kernel
theorem dX9_creed_14 : decode cX9_creed 14 = .ok (.aload_n 0, 1) := by decide +kernel
theorem dX9_creed_15 : decode cX9_creed 15 = .ok (.getfield 7, 3) := by decide +kernel
theorem dX9_creed_18 : decode cX9_creed 18 = .ok (.bipush 15, 2) := by decide +kernel
theorem dX9_creed_20 : decode cX9_creed 20 = .ok (.iaload, 1) := by decide +kernel
theorem dX9_creed_21 : decode cX9_creed 21 = .ok (.istore_n 2, 1) := by decide +kernel
theorem dX9_creed_22 : decode cX9_creed 22 = .ok (.aload_n 0, 1) := by decide +kernel
theorem dX9_creed_23 : decode cX9_creed 23 = .ok (.getfield 7, 3) := by decide +kernel
theorem dX9_creed_26 : decode cX9_creed 26 = .ok (.bipush 15, 2) := by decide +kernel
theorem dX9_creed_28 : decode cX9_creed 28 = .ok (.iload_n 1, 1) := by decide +kernel
theorem dX9_creed_29 : decode cX9_creed 29 = .ok (.iastore, 1) := by decide +kernel
theorem dX9_creed_30 : decode cX9_creed 30 = .ok (.iload_n 2, 1) := by decide +kernel
theorem dX9_creed_31 : decode cX9_creed 31 = .ok (.ireturn, 1) := by decide +kernel
set_option maxRecDepth 20000 in
theorem ggX9_say_X9_in : GoodIn wsX9_say wsX9_in := goodIn_r _ [6] (by decide +kernel) (by decide +kernel)
set_option maxRecDepth 20000 in
theorem gX9_say_X9_in : GoodIn wsX9_say (va_wsS RX9 48 yX9_in wsX9_in) := goodIn_app (goodIn_of _ (by decide +kernel)) ggX9_say_X9_in
theorem dX9_say_0 : decode cX9_say 0 = .ok (.iload_n 1, 1) := by decide +kernel
theorem dX9_say_1 : decode cX9_say 1 = .ok (.bipush 33, 2) := by decide +kernel
theorem dX9_say_3 : decode cX9_say 3 = .ok (.bipush 126, 2) := by decide +kernel
theorem dX9_say_5 : decode cX9_say 5 = .ok (.invokestatic 48, 3) := by decide +kernel
theorem dX9_say_8 : decode cX9_say 8 = .ok (.ifCond .ne 6, 3) := by decide +kernel
theorem dX9_say_11 : decode cX9_say 11 = .ok (.bipush (-2), 2) := by decide +kernel
theorem dX9_say_13 : decode cX9_say 13 = .ok (.ireturn, 1) := by decide +kernel
theorem dX9_say_14 : decode cX9_say 14 = .ok (.aload_n 0, 1) := by decide +kernel
theorem dX9_say_15 : decode cX9_say 15 = .ok (.getfield 64, 3) := by decide +kernel
theorem dX9_say_18 : decode cX9_say 18 = .ok (.bipush 60, 2) := by decide +kernel
theorem dX9_say_20 : decode cX9_say 20 = .ok (.if_icmp .ne 6, 3) := by decide +kernel
theorem dX9_say_23 : decode cX9_say 23 = .ok (.bipush (-4), 2) := by decide +kernel
theorem dX9_say_25 : decode cX9_say 25 = .ok (.ireturn, 1) := by decide +kernel
theorem dX9_say_26 : decode cX9_say 26 = .ok (.aload_n 0, 1) := by decide +kernel
theorem dX9_say_27 : decode cX9_say 27 = .ok (.getfield 22, 3) := by decide +kernel
theorem dX9_say_30 : decode cX9_say 30 = .ok (.aload_n 0, 1) := by decide +kernel
theorem dX9_say_31 : decode cX9_say 31 = .ok (.getfield 64, 3) := by decide +kernel
theorem dX9_say_34 : decode cX9_say 34 = .ok (.iload_n 1, 1) := by decide +kernel
theorem dX9_say_35 : decode cX9_say 35 = .ok (.iastore, 1) := by decide +kernel
theorem dX9_say_36 : decode cX9_say 36 = .ok (.aload_n 0, 1) := by decide +kernel
theorem dX9_say_37 : decode cX9_say 37 = .ok (.dup, 1) := by decide +kernel
theorem dX9_say_38 : decode cX9_say 38 = .ok (.getfield 64, 3) := by decide +kernel
theorem dX9_say_41 : decode cX9_say 41 = .ok (.iconst 1, 1) := by decide +kernel
theorem dX9_say_42 : decode cX9_say 42 = .ok (.iadd, 1) := by decide +kernel
theorem dX9_say_43 : decode cX9_say 43 = .ok (.putfield 64, 3) := by decide +kernel
theorem dX9_say_46 : decode cX9_say 46 = .ok (.aload_n 0, 1) := by decide +kernel
theorem dX9_say_47 : decode cX9_say 47 = .ok (.getfield 64, 3) := by decide +kernel
theorem dX9_say_50 : decode cX9_say 50 = .ok (.ireturn, 1) := by decide +kernel
theorem dX9_wipe_0 : decode cX9_wipe 0 = .ok (.aload_n 0, 1) := by decide +kernel
theorem dX9_wipe_1 : decode cX9_wipe 1 = .ok (.getfield 64, 3) := by decide +kernel
theorem dX9_wipe_4 : decode cX9_wipe 4 = .ok (.istore_n 1, 1) := by decide +kernel
theorem dX9_wipe_5 : decode cX9_wipe 5 = .ok (.aload_n 0, 1) := by decide +kernel
theorem dX9_wipe_6 : decode cX9_wipe 6 = .ok (.iconst 0, 1) := by decide +kernel
theorem dX9_wipe_7 : decode cX9_wipe 7 = .ok (.putfield 64, 3) := by decide +kernel
theorem dX9_wipe_10 : decode cX9_wipe 10 = .ok (.iload_n 1, 1) := by decide +kernel
theorem dX9_wipe_11 : decode cX9_wipe 11 = .ok (.ireturn, 1) := by decide +kernel
set_option maxRecDepth 20000 in
theorem ggX9_faultOf_X9_in : GoodIn wsX9_faultOf wsX9_in := goodIn_r _ [6] (by decide +kernel) (by decide +kernel)
set_option maxRecDepth 20000 in
theorem gX9_faultOf_X9_in : GoodIn wsX9_faultOf (va_wsS RX9 48 yX9_in wsX9_in) := goodIn_app (goodIn_of _ (by decide +kernel)) ggX9_faultOf_X9_in
theorem dX9_faultOf_0 : decode cX9_faultOf 0 = .ok (.iconst 0, 1) := by decide +kernel
theorem dX9_faultOf_1 : decode cX9_faultOf 1 = .ok (.istore_n 1, 1) := by decide +kernel
theorem dX9_faultOf_2 : decode cX9_faultOf 2 = .ok (.iconst 0, 1) := by decide +kernel
theorem dX9_faultOf_3 : decode cX9_faultOf 3 = .ok (.istore_n 2, 1) := by decide +kernel
theorem dX9_faultOf_4 : decode cX9_faultOf 4 = .ok (.iload_n 2, 1) := by decide +kernel
theorem dX9_faultOf_5 : decode cX9_faultOf 5 = .ok (.aload_n 0, 1) := by decide +kernel
theorem dX9_faultOf_6 : decode cX9_faultOf 6 = .ok (.getfield 64, 3) := by decide +kernel
theorem dX9_faultOf_9 : decode cX9_faultOf 9 = .ok (.if_icmp .ge 147, 3) := by decide +kernel
theorem dX9_faultOf_12 : decode cX9_faultOf 12 = .ok (.aload_n 0, 1) := by decide +kernel
theorem dX9_faultOf_13 : decode cX9_faultOf 13 = .ok (.getfield 22, 3) := by decide +kernel
theorem dX9_faultOf_16 : decode cX9_faultOf 16 = .ok (.iload_n 2, 1) := by decide +kernel
theorem dX9_faultOf_17 : decode cX9_faultOf 17 = .ok (.iaload, 1) := by decide +kernel
theorem dX9_faultOf_18 : decode cX9_faultOf 18 = .ok (.istore_n 3, 1) := by decide +kernel
theorem dX9_faultOf_19 : decode cX9_faultOf 19 = .ok (.iload_n 3, 1) := by decide +kernel
theorem dX9_faultOf_20 : decode cX9_faultOf 20 = .ok (.bipush 65, 2) := by decide +kernel
theorem dX9_faultOf_22 : decode cX9_faultOf 22 = .ok (.bipush 71, 2) := by decide +kernel
theorem dX9_faultOf_24 : decode cX9_faultOf 24 = .ok (.invokestatic 48, 3) := by decide +kernel
theorem dX9_faultOf_27 : decode cX9_faultOf 27 = .ok (.istore 4, 2) := by decide +kernel
theorem dX9_faultOf_29 : decode cX9_faultOf 29 = .ok (.iload_n 3, 1) := by decide +kernel
theorem dX9_faultOf_30 : decode cX9_faultOf 30 = .ok (.bipush 48, 2) := by decide +kernel
theorem dX9_faultOf_32 : decode cX9_faultOf 32 = .ok (.bipush 55, 2) := by decide +kernel
theorem dX9_faultOf_34 : decode cX9_faultOf 34 = .ok (.invokestatic 48, 3) := by decide +kernel
theorem dX9_faultOf_37 : decode cX9_faultOf 37 = .ok (.istore 5, 2) := by decide +kernel
theorem dX9_faultOf_39 : decode cX9_faultOf 39 = .ok (.iload_n 3, 1) := by decide +kernel
theorem dX9_faultOf_40 : decode cX9_faultOf 40 = .ok (.bipush 119, 2) := by decide +kernel
theorem dX9_faultOf_42 : decode cX9_faultOf 42 = .ok (.if_icmp .eq 9, 3) := by decide +kernel
theorem dX9_faultOf_45 : decode cX9_faultOf 45 = .ok (.iload_n 3, 1) := by decide +kernel
theorem dX9_faultOf_46 : decode cX9_faultOf 46 = .ok (.bipush 118, 2) := by decide +kernel
theorem dX9_faultOf_48 : decode cX9_faultOf 48 = .ok (.if_icmp .ne 7, 3) := by decide +kernel
theorem dX9_faultOf_51 : decode cX9_faultOf 51 = .ok (.iconst 1, 1) := by decide +kernel
theorem dX9_faultOf_52 : decode cX9_faultOf 52 = .ok (.goto 4, 3) := by decide +kernel
theorem dX9_faultOf_55 : decode cX9_faultOf 55 = .ok (.iconst 0, 1) := by decide +kernel
theorem dX9_faultOf_56 : decode cX9_faultOf 56 = .ok (.istore 6, 2) := by decide +kernel
theorem dX9_faultOf_58 : decode cX9_faultOf 58 = .ok (.iload_n 1, 1) := by decide +kernel
theorem dX9_faultOf_59 : decode cX9_faultOf 59 = .ok (.ifCond .ne 27, 3) := by decide +kernel
theorem dX9_faultOf_62 : decode cX9_faultOf 62 = .ok (.iload 4, 2) := by decide +kernel
theorem dX9_faultOf_64 : decode cX9_faultOf 64 = .ok (.ifCond .ne 14, 3) := by decide +kernel
theorem dX9_faultOf_67 : decode cX9_faultOf 67 = .ok (.iload 6, 2) := by decide +kernel
theorem dX9_faultOf_69 : decode cX9_faultOf 69 = .ok (.ifCond .ne 9, 3) := by decide +kernel
theorem dX9_faultOf_72 : decode cX9_faultOf 72 = .ok (.iload_n 3, 1) := by decide +kernel
theorem dX9_faultOf_73 : decode cX9_faultOf 73 = .ok (.bipush 46, 2) := by decide +kernel
theorem dX9_faultOf_75 : decode cX9_faultOf 75 = .ok (.if_icmp .ne 7, 3) := by decide +kernel
theorem dX9_faultOf_78 : decode cX9_faultOf 78 = .ok (.iconst 1, 1) := by decide +kernel
theorem dX9_faultOf_79 : decode cX9_faultOf 79 = .ok (.goto 34, 3) := by decide +kernel
theorem dX9_faultOf_82 : decode cX9_faultOf 82 = .ok (.iconst 0, 1) := by decide +kernel
theorem dX9_faultOf_83 : decode cX9_faultOf 83 = .ok (.goto 30, 3) := by decide +kernel
theorem dX9_faultOf_86 : decode cX9_faultOf 86 = .ok (.iload 5, 2) := by decide +kernel
theorem dX9_faultOf_88 : decode cX9_faultOf 88 = .ok (.ifCond .ne 20, 3) := by decide +kernel
theorem dX9_faultOf_91 : decode cX9_faultOf 91 = .ok (.iload_n 1, 1) := by decide +kernel
theorem dX9_faultOf_92 : decode cX9_faultOf 92 = .ok (.iconst 1, 1) := by decide +kernel
theorem dX9_faultOf_93 : decode cX9_faultOf 93 = .ok (.if_icmp .ne 19, 3) := by decide +kernel
theorem dX9_faultOf_96 : decode cX9_faultOf 96 = .ok (.iload_n 3, 1) := by decide +kernel
theorem dX9_faultOf_97 : decode cX9_faultOf 97 = .ok (.bipush 42, 2) := by decide +kernel
theorem dX9_faultOf_99 : decode cX9_faultOf 99 = .ok (.if_icmp .eq 9, 3) := by decide +kernel
theorem dX9_faultOf_102 : decode cX9_faultOf 102 = .ok (.iload_n 3, 1) := by decide +kernel
theorem dX9_faultOf_103 : decode cX9_faultOf 103 = .ok (.bipush 35, 2) := by decide +kernel
theorem dX9_faultOf_105 : decode cX9_faultOf 105 = .ok (.if_icmp .ne 7, 3) := by decide +kernel
theorem dX9_faultOf_108 : decode cX9_faultOf 108 = .ok (.iconst 1, 1) := by decide +kernel
theorem dX9_faultOf_109 : decode cX9_faultOf 109 = .ok (.goto 4, 3) := by decide +kernel
theorem dX9_faultOf_112 : decode cX9_faultOf 112 = .ok (.iconst 0, 1) := by decide +kernel
theorem dX9_faultOf_113 : decode cX9_faultOf 113 = .ok (.istore 7, 2) := by decide +kernel
theorem dX9_faultOf_115 : decode cX9_faultOf 115 = .ok (.iload 7, 2) := by decide +kernel
theorem dX9_faultOf_117 : decode cX9_faultOf 117 = .ok (.ifCond .ne 5, 3) := by decide +kernel
theorem dX9_faultOf_120 : decode cX9_faultOf 120 = .ok (.iload_n 2, 1) := by decide +kernel
theorem dX9_faultOf_121 : decode cX9_faultOf 121 = .ok (.ireturn, 1) := by decide +kernel
theorem dX9_faultOf_122 : decode cX9_faultOf 122 = .ok (.iload_n 1, 1) := by decide +kernel
theorem dX9_faultOf_123 : decode cX9_faultOf 123 = .ok (.ifCond .le 7, 3) := by decide +kernel
theorem dX9_faultOf_126 : decode cX9_faultOf 126 = .ok (.iconst 0, 1) := by decide +kernel
theorem dX9_faultOf_127 : decode cX9_faultOf 127 = .ok (.goto 22, 3) := by decide +kernel
theorem dX9_faultOf_130 : decode cX9_faultOf 130 = .ok (.iload 4, 2) := by decide +kernel
theorem dX9_faultOf_132 : decode cX9_faultOf 132 = .ok (.ifCond .eq 7, 3) := by decide +kernel
theorem dX9_faultOf_135 : decode cX9_faultOf 135 = .ok (.iconst 1, 1) := by decide +kernel
theorem dX9_faultOf_136 : decode cX9_faultOf 136 = .ok (.goto 13, 3) := by decide +kernel
theorem dX9_faultOf_139 : decode cX9_faultOf 139 = .ok (.iload 6, 2) := by decide +kernel
theorem dX9_faultOf_141 : decode cX9_faultOf 141 = .ok (.ifCond .eq 7, 3) := by decide +kernel
theorem dX9_faultOf_144 : decode cX9_faultOf 144 = .ok (.iconst 2, 1) := by decide +kernel
theorem dX9_faultOf_145 : decode cX9_faultOf 145 = .ok (.goto 4, 3) := by decide +kernel
theorem dX9_faultOf_148 : decode cX9_faultOf 148 = .ok (.iconst 0, 1) := by decide +kernel
theorem dX9_faultOf_149 : decode cX9_faultOf 149 = .ok (.istore_n 1, 1) := by decide +kernel
theorem dX9_faultOf_150 : decode cX9_faultOf 150 = .ok (.iinc 2 1, 3) := by decide +kernel
theorem dX9_faultOf_153 : decode cX9_faultOf 153 = .ok (.goto (-149), 3) := by decide +kernel
theorem dX9_faultOf_156 : decode cX9_faultOf 156 = .ok (.iload_n 1, 1) := by decide +kernel
theorem dX9_faultOf_157 : decode cX9_faultOf 157 = .ok (.ifCond .ne 8, 3) := by decide +kernel
theorem dX9_faultOf_160 : decode cX9_faultOf 160 = .ok (.bipush (-6), 2) := by decide +kernel
theorem dX9_faultOf_162 : decode cX9_faultOf 162 = .ok (.goto 7, 3) := by decide +kernel
theorem dX9_faultOf_165 : decode cX9_faultOf 165 = .ok (.aload_n 0, 1) := by decide +kernel
theorem dX9_faultOf_166 : decode cX9_faultOf 166 = .ok (.getfield 64, 3) := by decide +kernel
theorem dX9_faultOf_169 : decode cX9_faultOf 169 = .ok (.ireturn, 1) := by decide +kernel
set_option maxRecDepth 20000 in
theorem ggX9_fault_X9_faultOf : GoodIn wsX9_fault wsX9_faultOf := goodIn_r _ [5, 6, 7, 8, 9, 4, 10, 11, 12, 13, 14, 15, 16, 17, 18, 19, 20, 21, 22, 23, 24, 25, 26, 27, 28, 29] (by decide +kernel) (by decide +kernel)
set_option maxRecDepth 20000 in
theorem gX9_fault_X9_faultOf : GoodIn wsX9_fault (wsV RX9 67 RX9 yX9_faultOf wsX9_faultOf) := goodIn_app (goodIn_of _ (by decide +kernel)) ggX9_fault_X9_faultOf
theorem dX9_fault_0 : decode cX9_fault 0 = .ok (.aload_n 0, 1) := by decide +kernel
theorem dX9_fault_1 : decode cX9_fault 1 = .ok (.invokevirtual 67, 3) := by decide +kernel
theorem dX9_fault_4 : decode cX9_fault 4 = .ok (.ireturn, 1) := by decide +kernel
theorem dX9_asNow_0 : decode cX9_asNow 0 = .ok (.iconst 0, 1) := by decide +kernel
theorem dX9_asNow_1 : decode cX9_asNow 1 = .ok (.istore_n 1, 1) := by decide +kernel
theorem dX9_asNow_2 : decode cX9_asNow 2 = .ok (.iload_n 1, 1) := by decide +kernel
theorem dX9_asNow_3 : decode cX9_asNow 3 = .ok (.bipush 19, 2) := by decide +kernel
theorem dX9_asNow_5 : decode cX9_asNow 5 = .ok (.if_icmp .ge 21, 3) := by decide +kernel
theorem dX9_asNow_8 : decode cX9_asNow 8 = .ok (.aload_n 0, 1) := by decide +kernel
theorem dX9_asNow_9 : decode cX9_asNow 9 = .ok (.getfield 13, 3) := by decide +kernel
theorem dX9_asNow_12 : decode cX9_asNow 12 = .ok (.iload_n 1, 1) := by decide +kernel
theorem dX9_asNow_13 : decode cX9_asNow 13 = .ok (.aload_n 0, 1) := by decide +kernel
theorem dX9_asNow_14 : decode cX9_asNow 14 = .ok (.getfield 7, 3) := by decide +kernel
theorem dX9_asNow_17 : decode cX9_asNow 17 = .ok (.iload_n 1, 1) := by decide +kernel
theorem dX9_asNow_18 : decode cX9_asNow 18 = .ok (.iaload, 1) := by decide +kernel
theorem dX9_asNow_19 : decode cX9_asNow 19 = .ok (.iastore, 1) := by decide +kernel
theorem dX9_asNow_20 : decode cX9_asNow 20 = .ok (.iinc 1 1, 3) := by decide +kernel
theorem dX9_asNow_23 : decode cX9_asNow 23 = .ok (.goto (-21), 3) := by decide +kernel
theorem dX9_asNow_26 : decode cX9_asNow 26 = .ok (.aload_n 0, 1) := by decide +kernel
theorem dX9_asNow_27 : decode cX9_asNow 27 = .ok (.bipush (-6), 2) := by decide +kernel
theorem dX9_asNow_29 : decode cX9_asNow 29 = .ok (.putfield 71, 3) := by decide +kernel
theorem dX9_asNow_32 : decode cX9_asNow 32 = .ok (.aload_n 0, 1) := by decide +kernel
theorem dX9_asNow_33 : decode cX9_asNow 33 = .ok (.bipush (-6), 2) := by decide +kernel
theorem dX9_asNow_35 : decode cX9_asNow 35 = .ok (.putfield 74, 3) := by decide +kernel
theorem dX9_asNow_38 : decode cX9_asNow 38 = .ok (.return_, 1) := by decide +kernel
set_option maxRecDepth 20000 in
theorem ggX9_oil_X9_isThere : GoodIn wsX9_oil wsX9_isThere := goodIn_r _ [6, 7, 8, 9, 5, 10, 11, 12, 13, 14, 15, 16, 17, 18, 19, 20, 21, 22, 23, 24, 25, 26, 27, 28, 29, 30, 31, 32] (by decide +kernel) (by decide +kernel)
set_option maxRecDepth 20000 in
theorem gX9_oil_X9_isThere : GoodIn wsX9_oil (wsV RX9 77 RX9 yX9_isThere wsX9_isThere) := goodIn_app (goodIn_of _ (by decide +kernel)) ggX9_oil_X9_isThere
set_option maxRecDepth 20000 in
theorem ggX9_oil_X9_has : GoodIn wsX9_oil wsX9_has := goodIn_r _ [13] (by decide +kernel) (by decide +kernel)
set_option maxRecDepth 20000 in
theorem gX9_oil_X9_has : GoodIn wsX9_oil (va_wsS RX9 56 yX9_has wsX9_has) := goodIn_app (goodIn_of _ (by decide +kernel)) ggX9_oil_X9_has
theorem dX9_oil_0 : decode cX9_oil 0 = .ok (.aload_n 0, 1) := by decide +kernel
theorem dX9_oil_1 : decode cX9_oil 1 = .ok (.iload_n 1, 1) := by decide +kernel
theorem dX9_oil_2 : decode cX9_oil 2 = .ok (.invokevirtual 77, 3) := by decide +kernel
theorem dX9_oil_5 : decode cX9_oil 5 = .ok (.ifCond .ne 5, 3) := by decide +kernel
theorem dX9_oil_8 : decode cX9_oil 8 = .ok (.iconst 1, 1) := by decide +kernel
theorem dX9_oil_9 : decode cX9_oil 9 = .ok (.ireturn, 1) := by decide +kernel
theorem dX9_oil_10 : decode cX9_oil 10 = .ok (.aload_n 0, 1) := by decide +kernel
theorem dX9_oil_11 : decode cX9_oil 11 = .ok (.getfield 13, 3) := by decide +kernel
theorem dX9_oil_14 : decode cX9_oil 14 = .ok (.bipush 14, 2) := by decide +kernel
theorem dX9_oil_16 : decode cX9_oil 16 = .ok (.iaload, 1) := by decide +kernel
theorem dX9_oil_17 : decode cX9_oil 17 = .ok (.iload_n 1, 1) := by decide +kernel
theorem dX9_oil_18 : decode cX9_oil 18 = .ok (.invokestatic 56, 3) := by decide +kernel
theorem dX9_oil_21 : decode cX9_oil 21 = .ok (.ifCond .eq 5, 3) := by decide +kernel
theorem dX9_oil_24 : decode cX9_oil 24 = .ok (.iconst 2, 1) := by decide +kernel
theorem dX9_oil_25 : decode cX9_oil 25 = .ok (.ireturn, 1) := by decide +kernel
theorem dX9_oil_26 : decode cX9_oil 26 = .ok (.aload_n 0, 1) := by decide +kernel
theorem dX9_oil_27 : decode cX9_oil 27 = .ok (.getfield 13, 3) := by decide +kernel
theorem dX9_oil_30 : decode cX9_oil 30 = .ok (.bipush 17, 2) := by decide +kernel
theorem dX9_oil_32 : decode cX9_oil 32 = .ok (.iaload, 1) := by decide +kernel
theorem dX9_oil_33 : decode cX9_oil 33 = .ok (.ifCond .ne 5, 3) := by decide +kernel
theorem dX9_oil_36 : decode cX9_oil 36 = .ok (.iconst 4, 1) := by decide +kernel
theorem dX9_oil_37 : decode cX9_oil 37 = .ok (.ireturn, 1) := by decide +kernel
theorem dX9_oil_38 : decode cX9_oil 38 = .ok (.aload_n 0, 1) := by decide +kernel
theorem dX9_oil_39 : decode cX9_oil 39 = .ok (.getfield 13, 3) := by decide +kernel
theorem dX9_oil_42 : decode cX9_oil 42 = .ok (.bipush 17, 2) := by decide +kernel
theorem dX9_oil_44 : decode cX9_oil 44 = .ok (.dup2, 1) := by decide +kernel
theorem dX9_oil_45 : decode cX9_oil 45 = .ok (.iaload, 1) := by decide +kernel
theorem dX9_oil_46 : decode cX9_oil 46 = .ok (.iconst 1, 1) := by decide +kernel
theorem dX9_oil_47 : decode cX9_oil 47 = .ok (.isub, 1) := by decide +kernel
theorem dX9_oil_48 : decode cX9_oil 48 = .ok (.iastore, 1) := by decide +kernel
theorem dX9_oil_49 : decode cX9_oil 49 = .ok (.aload_n 0, 1) := by decide +kernel
theorem dX9_oil_50 : decode cX9_oil 50 = .ok (.getfield 13, 3) := by decide +kernel
theorem dX9_oil_53 : decode cX9_oil 53 = .ok (.bipush 14, 2) := by decide +kernel
theorem dX9_oil_55 : decode cX9_oil 55 = .ok (.dup2, 1) := by decide +kernel
theorem dX9_oil_56 : decode cX9_oil 56 = .ok (.iaload, 1) := by decide +kernel
theorem dX9_oil_57 : decode cX9_oil 57 = .ok (.iconst 1, 1) := by decide +kernel
theorem dX9_oil_58 : decode cX9_oil 58 = .ok (.iload_n 1, 1) := by decide +kernel
theorem dX9_oil_59 : decode cX9_oil 59 = .ok (.ishl, 1) := by decide +kernel
theorem dX9_oil_60 : decode cX9_oil 60 = .ok (.ior, 1) := by decide +kernel
theorem dX9_oil_61 : decode cX9_oil 61 = .ok (.iastore, 1) := by decide +kernel
theorem dX9_oil_62 : decode cX9_oil 62 = .ok (.iconst 0, 1) := by decide +kernel
theorem dX9_oil_63 : decode cX9_oil 63 = .ok (.ireturn, 1) := by decide +kernel
set_option maxRecDepth 20000 in
theorem ggX9_wire_X9_isThere : GoodIn wsX9_wire wsX9_isThere := goodIn_r _ [6, 7, 8, 9, 5, 10, 11, 12, 13, 14, 15, 16, 17, 18, 19, 20, 21, 22, 23, 24, 25, 26, 27, 28, 29, 30, 31, 32] (by decide +kernel) (by decide +kernel)
set_option maxRecDepth 20000 in
theorem gX9_wire_X9_isThere : GoodIn wsX9_wire (wsV RX9 77 RX9 yX9_isThere wsX9_isThere) := goodIn_app (goodIn_of _ (by decide +kernel)) ggX9_wire_X9_isThere
set_option maxRecDepth 20000 in
theorem ggX9_wire_X9_has : GoodIn wsX9_wire wsX9_has := goodIn_r _ [13] (by decide +kernel) (by decide +kernel)
set_option maxRecDepth 20000 in
theorem gX9_wire_X9_has : GoodIn wsX9_wire (va_wsS RX9 56 yX9_has wsX9_has) := goodIn_app (goodIn_of _ (by decide +kernel)) ggX9_wire_X9_has
theorem dX9_wire_0 : decode cX9_wire 0 = .ok (.aload_n 0, 1) := by decide +kernel
theorem dX9_wire_1 : decode cX9_wire 1 = .ok (.iload_n 1, 1) := by decide +kernel
theorem dX9_wire_2 : decode cX9_wire 2 = .ok (.invokevirtual 77, 3) := by decide +kernel
theorem dX9_wire_5 : decode cX9_wire 5 = .ok (.ifCond .ne 5, 3) := by decide +kernel
theorem dX9_wire_8 : decode cX9_wire 8 = .ok (.iconst 1, 1) := by decide +kernel
theorem dX9_wire_9 : decode cX9_wire 9 = .ok (.ireturn, 1) := by decide +kernel
theorem dX9_wire_10 : decode cX9_wire 10 = .ok (.aload_n 0, 1) := by decide +kernel
theorem dX9_wire_11 : decode cX9_wire 11 = .ok (.getfield 13, 3) := by decide +kernel
theorem dX9_wire_14 : decode cX9_wire 14 = .ok (.bipush 14, 2) := by decide +kernel
theorem dX9_wire_16 : decode cX9_wire 16 = .ok (.iaload, 1) := by decide +kernel
theorem dX9_wire_17 : decode cX9_wire 17 = .ok (.iload_n 1, 1) := by decide +kernel
theorem dX9_wire_18 : decode cX9_wire 18 = .ok (.invokestatic 56, 3) := by decide +kernel
theorem dX9_wire_21 : decode cX9_wire 21 = .ok (.ifCond .ne 5, 3) := by decide +kernel
theorem dX9_wire_24 : decode cX9_wire 24 = .ok (.iconst 2, 1) := by decide +kernel
theorem dX9_wire_25 : decode cX9_wire 25 = .ok (.ireturn, 1) := by decide +kernel
theorem dX9_wire_26 : decode cX9_wire 26 = .ok (.aload_n 0, 1) := by decide +kernel
theorem dX9_wire_27 : decode cX9_wire 27 = .ok (.getfield 13, 3) := by decide +kernel
theorem dX9_wire_30 : decode cX9_wire 30 = .ok (.bipush 14, 2) := by decide +kernel
theorem dX9_wire_32 : decode cX9_wire 32 = .ok (.dup2, 1) := by decide +kernel
theorem dX9_wire_33 : decode cX9_wire 33 = .ok (.iaload, 1) := by decide +kernel
theorem dX9_wire_34 : decode cX9_wire 34 = .ok (.iconst 1, 1) := by decide +kernel
theorem dX9_wire_35 : decode cX9_wire 35 = .ok (.iload_n 1, 1) := by decide +kernel
theorem dX9_wire_36 : decode cX9_wire 36 = .ok (.ishl, 1) := by decide +kernel
theorem dX9_wire_37 : decode cX9_wire 37 = .ok (.iconst (-1), 1) := by decide +kernel
theorem dX9_wire_38 : decode cX9_wire 38 = .ok (.ixor, 1) := by decide +kernel
theorem dX9_wire_39 : decode cX9_wire 39 = .ok (.iand, 1) := by decide +kernel
theorem dX9_wire_40 : decode cX9_wire 40 = .ok (.iastore, 1) := by decide +kernel
theorem dX9_wire_41 : decode cX9_wire 41 = .ok (.iconst 0, 1) := by decide +kernel
theorem dX9_wire_42 : decode cX9_wire 42 = .ok (.ireturn, 1) := by decide +kernel
set_option maxRecDepth 20000 in
theorem ggX9_hand_X9_isThere : GoodIn wsX9_hand wsX9_isThere := goodIn_r _ [6, 7, 8, 9, 5, 10, 11, 12, 13, 14, 15, 16, 17, 18, 19, 20, 21, 22, 23, 24, 25, 26, 27, 28, 29, 30, 31, 32] (by decide +kernel) (by decide +kernel)
set_option maxRecDepth 20000 in
theorem gX9_hand_X9_isThere : GoodIn wsX9_hand (wsV RX9 77 RX9 yX9_isThere wsX9_isThere) := goodIn_app (goodIn_of _ (by decide +kernel)) ggX9_hand_X9_isThere
set_option maxRecDepth 20000 in
theorem ggX9_hand_X9_has : GoodIn wsX9_hand wsX9_has := goodIn_r _ [13] (by decide +kernel) (by decide +kernel)
set_option maxRecDepth 20000 in
theorem gX9_hand_X9_has : GoodIn wsX9_hand (va_wsS RX9 56 yX9_has wsX9_has) := goodIn_app (goodIn_of _ (by decide +kernel)) ggX9_hand_X9_has
theorem dX9_hand_0 : decode cX9_hand 0 = .ok (.aload_n 0, 1) := by decide +kernel
theorem dX9_hand_1 : decode cX9_hand 1 = .ok (.iload_n 1, 1) := by decide +kernel
theorem dX9_hand_2 : decode cX9_hand 2 = .ok (.invokevirtual 77, 3) := by decide +kernel
theorem dX9_hand_5 : decode cX9_hand 5 = .ok (.ifCond .ne 5, 3) := by decide +kernel
theorem dX9_hand_8 : decode cX9_hand 8 = .ok (.iconst 1, 1) := by decide +kernel
theorem dX9_hand_9 : decode cX9_hand 9 = .ok (.ireturn, 1) := by decide +kernel
theorem dX9_hand_10 : decode cX9_hand 10 = .ok (.aload_n 0, 1) := by decide +kernel
theorem dX9_hand_11 : decode cX9_hand 11 = .ok (.getfield 13, 3) := by decide +kernel
theorem dX9_hand_14 : decode cX9_hand 14 = .ok (.bipush 14, 2) := by decide +kernel
theorem dX9_hand_16 : decode cX9_hand 16 = .ok (.iaload, 1) := by decide +kernel
theorem dX9_hand_17 : decode cX9_hand 17 = .ok (.iload_n 1, 1) := by decide +kernel
theorem dX9_hand_18 : decode cX9_hand 18 = .ok (.invokestatic 56, 3) := by decide +kernel
theorem dX9_hand_21 : decode cX9_hand 21 = .ok (.ifCond .ne 5, 3) := by decide +kernel
theorem dX9_hand_24 : decode cX9_hand 24 = .ok (.iconst 2, 1) := by decide +kernel
theorem dX9_hand_25 : decode cX9_hand 25 = .ok (.ireturn, 1) := by decide +kernel
theorem dX9_hand_26 : decode cX9_hand 26 = .ok (.aload_n 0, 1) := by decide +kernel
theorem dX9_hand_27 : decode cX9_hand 27 = .ok (.getfield 13, 3) := by decide +kernel
theorem dX9_hand_30 : decode cX9_hand 30 = .ok (.iload_n 1, 1) := by decide +kernel
theorem dX9_hand_31 : decode cX9_hand 31 = .ok (.iaload, 1) := by decide +kernel
theorem dX9_hand_32 : decode cX9_hand 32 = .ok (.iload_n 2, 1) := by decide +kernel
theorem dX9_hand_33 : decode cX9_hand 33 = .ok (.if_icmp .ne 5, 3) := by decide +kernel
theorem dX9_hand_36 : decode cX9_hand 36 = .ok (.iconst 3, 1) := by decide +kernel
theorem dX9_hand_37 : decode cX9_hand 37 = .ok (.ireturn, 1) := by decide +kernel
theorem dX9_hand_38 : decode cX9_hand 38 = .ok (.aload_n 0, 1) := by decide +kernel
theorem dX9_hand_39 : decode cX9_hand 39 = .ok (.getfield 13, 3) := by decide +kernel
theorem dX9_hand_42 : decode cX9_hand 42 = .ok (.iload_n 1, 1) := by decide +kernel
theorem dX9_hand_43 : decode cX9_hand 43 = .ok (.iload_n 2, 1) := by decide +kernel
theorem dX9_hand_44 : decode cX9_hand 44 = .ok (.iastore, 1) := by decide +kernel
theorem dX9_hand_45 : decode cX9_hand 45 = .ok (.iconst 0, 1) := by decide +kernel
theorem dX9_hand_46 : decode cX9_hand 46 = .ok (.ireturn, 1) := by decide +kernel
theorem dX9_blow_0 : decode cX9_blow 0 = .ok (.aload_n 0, 1) := by decide +kernel
theorem dX9_blow_1 : decode cX9_blow 1 = .ok (.getfield 13, 3) := by decide +kernel
theorem dX9_blow_4 : decode cX9_blow 4 = .ok (.bipush 16, 2) := by decide +kernel
theorem dX9_blow_6 : decode cX9_blow 6 = .ok (.iaload, 1) := by decide +kernel
theorem dX9_blow_7 : decode cX9_blow 7 = .ok (.iload_n 1, 1) := by decide +kernel
theorem dX9_blow_8 : decode cX9_blow 8 = .ok (.if_icmp .ne 5, 3) := by decide +kernel
theorem dX9_blow_11 : decode cX9_blow 11 = .ok (.iconst 5, 1) := by decide +kernel
theorem dX9_blow_12 : decode cX9_blow 12 = .ok (.ireturn, 1) := by decide +kernel
theorem dX9_blow_13 : decode cX9_blow 13 = .ok (.aload_n 0, 1) := by decide +kernel
theorem dX9_blow_14 : decode cX9_blow 14 = .ok (.getfield 13, 3) := by decide +kernel
theorem dX9_blow_17 : decode cX9_blow 17 = .ok (.bipush 16, 2) := by decide +kernel
theorem dX9_blow_19 : decode cX9_blow 19 = .ok (.iload_n 1, 1) := by decide +kernel
theorem dX9_blow_20 : decode cX9_blow 20 = .ok (.iastore, 1) := by decide +kernel
theorem dX9_blow_21 : decode cX9_blow 21 = .ok (.iconst 0, 1) := by decide +kernel
theorem dX9_blow_22 : decode cX9_blow 22 = .ok (.ireturn, 1) := by decide +kernel
set_option maxRecDepth 20000 in
theorem ggX9_agreeing_X9_isThere : GoodIn wsX9_agreeing wsX9_isThere := goodIn_r _ [6, 7, 8, 9, 5, 10, 11, 12, 13, 17, 18, 19, 20, 21, 22, 23, 24, 25, 26, 27, 28, 29, 30, 31, 32, 33, 34, 35] (by decide +kernel) (by decide +kernel)
set_option maxRecDepth 20000 in
theorem gX9_agreeing_X9_isThere : GoodIn wsX9_agreeing (wsV RX9 77 RX9 yX9_isThere wsX9_isThere) := goodIn_app (goodIn_of _ (by decide +kernel)) ggX9_agreeing_X9_isThere
set_option maxRecDepth 20000 in
theorem ggX9_agreeing_X9_apartOf : GoodIn wsX9_agreeing wsX9_apartOf := goodIn_r _ [16] (by decide +kernel) (by decide +kernel)
set_option maxRecDepth 20000 in
theorem gX9_agreeing_X9_apartOf : GoodIn wsX9_agreeing (va_wsS RX9 81 yX9_apartOf wsX9_apartOf) := goodIn_app (goodIn_of _ (by decide +kernel)) ggX9_agreeing_X9_apartOf
theorem dX9_agreeing_0 : decode cX9_agreeing 0 = .ok (.iconst 0, 1) := by decide +kernel
theorem dX9_agreeing_1 : decode cX9_agreeing 1 = .ok (.istore_n 2, 1) := by decide +kernel
theorem dX9_agreeing_2 : decode cX9_agreeing 2 = .ok (.iconst 0, 1) := by decide +kernel
theorem dX9_agreeing_3 : decode cX9_agreeing 3 = .ok (.istore_n 3, 1) := by decide +kernel
theorem dX9_agreeing_4 : decode cX9_agreeing 4 = .ok (.iload_n 3, 1) := by decide +kernel
theorem dX9_agreeing_5 : decode cX9_agreeing 5 = .ok (.bipush 7, 2) := by decide +kernel
theorem dX9_agreeing_7 : decode cX9_agreeing 7 = .ok (.if_icmp .ge 41, 3) := by decide +kernel
theorem dX9_agreeing_10 : decode cX9_agreeing 10 = .ok (.iload_n 2, 1) := by decide +kernel
theorem dX9_agreeing_11 : decode cX9_agreeing 11 = .ok (.aload_n 0, 1) := by decide +kernel
theorem dX9_agreeing_12 : decode cX9_agreeing 12 = .ok (.iload_n 3, 1) := by decide +kernel
theorem dX9_agreeing_13 : decode cX9_agreeing 13 = .ok (.invokevirtual 77, 3) := by decide +kernel
theorem dX9_agreeing_16 : decode cX9_agreeing 16 = .ok (.ifCond .eq 23, 3) := by decide +kernel
theorem dX9_agreeing_19 : decode cX9_agreeing 19 = .ok (.aload_n 0, 1) := by decide +kernel
theorem dX9_agreeing_20 : decode cX9_agreeing 20 = .ok (.getfield 13, 3) := by decide +kernel
theorem dX9_agreeing_23 : decode cX9_agreeing 23 = .ok (.iload_n 3, 1) := by decide +kernel
theorem dX9_agreeing_24 : decode cX9_agreeing 24 = .ok (.iaload, 1) := by decide +kernel
theorem dX9_agreeing_25 : decode cX9_agreeing 25 = .ok (.iload_n 1, 1) := by decide +kernel
theorem dX9_agreeing_26 : decode cX9_agreeing 26 = .ok (.invokestatic 81, 3) := by decide +kernel
theorem dX9_agreeing_29 : decode cX9_agreeing 29 = .ok (.iconst 2, 1) := by decide +kernel
theorem dX9_agreeing_30 : decode cX9_agreeing 30 = .ok (.if_icmp .ge 9, 3) := by decide +kernel
theorem dX9_agreeing_33 : decode cX9_agreeing 33 = .ok (.iconst 1, 1) := by decide +kernel
theorem dX9_agreeing_34 : decode cX9_agreeing 34 = .ok (.iload_n 3, 1) := by decide +kernel
theorem dX9_agreeing_35 : decode cX9_agreeing 35 = .ok (.ishl, 1) := by decide +kernel
theorem dX9_agreeing_36 : decode cX9_agreeing 36 = .ok (.goto 4, 3) := by decide +kernel
theorem dX9_agreeing_39 : decode cX9_agreeing 39 = .ok (.iconst 0, 1) := by decide +kernel
theorem dX9_agreeing_40 : decode cX9_agreeing 40 = .ok (.ior, 1) := by decide +kernel
theorem dX9_agreeing_41 : decode cX9_agreeing 41 = .ok (.istore_n 2, 1) := by decide +kernel
theorem dX9_agreeing_42 : decode cX9_agreeing 42 = .ok (.iinc 3 1, 3) := by decide +kernel
theorem dX9_agreeing_45 : decode cX9_agreeing 45 = .ok (.goto (-41), 3) := by decide +kernel
theorem dX9_agreeing_48 : decode cX9_agreeing 48 = .ok (.iload_n 2, 1) := by decide +kernel
theorem dX9_agreeing_49 : decode cX9_agreeing 49 = .ok (.ireturn, 1) := by decide +kernel
set_option maxRecDepth 20000 in
theorem ggX9_isCarried_X9_agreeing : GoodIn wsX9_isCarried wsX9_agreeing := goodIn_r _ [6, 7, 8, 9, 10, 5, 11, 1, 12, 13, 14, 15, 16, 17, 18, 19, 20, 24, 25, 26, 27, 28, 29, 30, 31, 32, 33, 34, 35, 36, 37, 38, 39, 40, 41, 42] (by decide +kernel) (by decide +kernel)
set_option maxRecDepth 20000 in
theorem gX9_isCarried_X9_agreeing : GoodIn wsX9_isCarried (wsV RX9 85 RX9 yX9_agreeing wsX9_agreeing) := goodIn_app (goodIn_of _ (by decide +kernel)) ggX9_isCarried_X9_agreeing
set_option maxRecDepth 20000 in
theorem ggX9_isCarried_X9_bits : GoodIn wsX9_isCarried wsX9_bits := goodIn_r _ [23] (by decide +kernel) (by decide +kernel)
set_option maxRecDepth 20000 in
theorem gX9_isCarried_X9_bits : GoodIn wsX9_isCarried (va_wsS RX9 60 yX9_bits wsX9_bits) := goodIn_app (goodIn_of _ (by decide +kernel)) ggX9_isCarried_X9_bits
theorem dX9_isCarried_0 : decode cX9_isCarried 0 = .ok (.iconst 2, 1) := by decide +kernel
theorem dX9_isCarried_1 : decode cX9_isCarried 1 = .ok (.aload_n 0, 1) := by decide +kernel
theorem dX9_isCarried_2 : decode cX9_isCarried 2 = .ok (.iload_n 1, 1) := by decide +kernel
theorem dX9_isCarried_3 : decode cX9_isCarried 3 = .ok (.invokevirtual 85, 3) := by decide +kernel
theorem dX9_isCarried_6 : decode cX9_isCarried 6 = .ok (.invokestatic 60, 3) := by decide +kernel
theorem dX9_isCarried_9 : decode cX9_isCarried 9 = .ok (.imul, 1) := by decide +kernel
theorem dX9_isCarried_10 : decode cX9_isCarried 10 = .ok (.aload_n 0, 1) := by decide +kernel
theorem dX9_isCarried_11 : decode cX9_isCarried 11 = .ok (.getfield 52, 3) := by decide +kernel
theorem dX9_isCarried_14 : decode cX9_isCarried 14 = .ok (.invokestatic 60, 3) := by decide +kernel
theorem dX9_isCarried_17 : decode cX9_isCarried 17 = .ok (.if_icmp .le 7, 3) := by decide +kernel
theorem dX9_isCarried_20 : decode cX9_isCarried 20 = .ok (.iconst 1, 1) := by decide +kernel
theorem dX9_isCarried_21 : decode cX9_isCarried 21 = .ok (.goto 4, 3) := by decide +kernel
theorem dX9_isCarried_24 : decode cX9_isCarried 24 = .ok (.iconst 0, 1) := by decide +kernel
theorem dX9_isCarried_25 : decode cX9_isCarried 25 = .ok (.ireturn, 1) := by decide +kernel
set_option maxRecDepth 20000 in
theorem ggX9_vote_X9_isCarried : GoodIn wsX9_vote wsX9_isCarried := goodIn_r _ [7, 1, 8, 9, 10, 6, 11, 2, 12, 13, 14, 15, 16, 17, 18, 19, 20, 21, 22, 23, 24, 25, 26, 27, 28, 29, 30, 31, 32, 33, 34, 35, 36, 37, 38, 39, 40, 41, 42, 43, 44, 45, 46] (by decide +kernel) (by decide +kernel)
set_option maxRecDepth 20000 in
theorem gX9_vote_X9_isCarried : GoodIn wsX9_vote (wsV RX9 88 RX9 yX9_isCarried wsX9_isCarried) := goodIn_app (goodIn_of _ (by decide +kernel)) ggX9_vote_X9_isCarried
theorem dX9_vote_0 : decode cX9_vote 0 = .ok (.aload_n 0, 1) := by decide +kernel
theorem dX9_vote_1 : decode cX9_vote 1 = .ok (.getfield 52, 3) := by decide +kernel
theorem dX9_vote_4 : decode cX9_vote 4 = .ok (.ifCond .ne 6, 3) := by decide +kernel
theorem dX9_vote_7 : decode cX9_vote 7 = .ok (.bipush 6, 2) := by decide +kernel
theorem dX9_vote_9 : decode cX9_vote 9 = .ok (.ireturn, 1) := by decide +kernel
theorem dX9_vote_10 : decode cX9_vote 10 = .ok (.aload_n 0, 1) := by decide +kernel
theorem dX9_vote_11 : decode cX9_vote 11 = .ok (.getfield 13, 3) := by decide +kernel
theorem dX9_vote_14 : decode cX9_vote 14 = .ok (.bipush 15, 2) := by decide +kernel
theorem dX9_vote_16 : decode cX9_vote 16 = .ok (.dup2, 1) := by decide +kernel
theorem dX9_vote_17 : decode cX9_vote 17 = .ok (.iaload, 1) := by decide +kernel
theorem dX9_vote_18 : decode cX9_vote 18 = .ok (.iconst 1, 1) := by decide +kernel
theorem dX9_vote_19 : decode cX9_vote 19 = .ok (.iload_n 1, 1) := by decide +kernel
theorem dX9_vote_20 : decode cX9_vote 20 = .ok (.ishl, 1) := by decide +kernel
theorem dX9_vote_21 : decode cX9_vote 21 = .ok (.iconst (-1), 1) := by decide +kernel
theorem dX9_vote_22 : decode cX9_vote 22 = .ok (.ixor, 1) := by decide +kernel
theorem dX9_vote_23 : decode cX9_vote 23 = .ok (.iand, 1) := by decide +kernel
theorem dX9_vote_24 : decode cX9_vote 24 = .ok (.iastore, 1) := by decide +kernel
theorem dX9_vote_25 : decode cX9_vote 25 = .ok (.aload_n 0, 1) := by decide +kernel
theorem dX9_vote_26 : decode cX9_vote 26 = .ok (.getfield 13, 3) := by decide +kernel
theorem dX9_vote_29 : decode cX9_vote 29 = .ok (.bipush 15, 2) := by decide +kernel
theorem dX9_vote_31 : decode cX9_vote 31 = .ok (.dup2, 1) := by decide +kernel
theorem dX9_vote_32 : decode cX9_vote 32 = .ok (.iaload, 1) := by decide +kernel
theorem dX9_vote_33 : decode cX9_vote 33 = .ok (.aload_n 0, 1) := by decide +kernel
theorem dX9_vote_34 : decode cX9_vote 34 = .ok (.iload_n 1, 1) := by decide +kernel
theorem dX9_vote_35 : decode cX9_vote 35 = .ok (.invokevirtual 88, 3) := by decide +kernel
theorem dX9_vote_38 : decode cX9_vote 38 = .ok (.ifCond .eq 9, 3) := by decide +kernel
theorem dX9_vote_41 : decode cX9_vote 41 = .ok (.iconst 1, 1) := by decide +kernel
theorem dX9_vote_42 : decode cX9_vote 42 = .ok (.iload_n 1, 1) := by decide +kernel
theorem dX9_vote_43 : decode cX9_vote 43 = .ok (.ishl, 1) := by decide +kernel
theorem dX9_vote_44 : decode cX9_vote 44 = .ok (.goto 4, 3) := by decide +kernel
theorem dX9_vote_47 : decode cX9_vote 47 = .ok (.iconst 0, 1) := by decide +kernel
theorem dX9_vote_48 : decode cX9_vote 48 = .ok (.ior, 1) := by decide +kernel
theorem dX9_vote_49 : decode cX9_vote 49 = .ok (.iastore, 1) := by decide +kernel
theorem dX9_vote_50 : decode cX9_vote 50 = .ok (.iconst 0, 1) := by decide +kernel
theorem dX9_vote_51 : decode cX9_vote 51 = .ok (.ireturn, 1) := by decide +kernel
set_option maxRecDepth 20000 in
theorem ggX9_turnAll_X9_isThere : GoodIn wsX9_turnAll wsX9_isThere := goodIn_r _ [6, 7, 8, 9, 5, 10, 11, 12, 13, 14, 15, 16, 17, 18, 19, 20, 21, 22, 23, 24, 25, 26, 27, 28, 29, 30, 31, 32] (by decide +kernel) (by decide +kernel)
set_option maxRecDepth 20000 in
theorem gX9_turnAll_X9_isThere : GoodIn wsX9_turnAll (wsV RX9 77 RX9 yX9_isThere wsX9_isThere) := goodIn_app (goodIn_of _ (by decide +kernel)) ggX9_turnAll_X9_isThere
set_option maxRecDepth 20000 in
theorem ggX9_turnAll_X9_has : GoodIn wsX9_turnAll wsX9_has := goodIn_r _ [13] (by decide +kernel) (by decide +kernel)
set_option maxRecDepth 20000 in
theorem gX9_turnAll_X9_has : GoodIn wsX9_turnAll (va_wsS RX9 56 yX9_has wsX9_has) := goodIn_app (goodIn_of _ (by decide +kernel)) ggX9_turnAll_X9_has
theorem dX9_turnAll_0 : decode cX9_turnAll 0 = .ok (.iconst 0, 1) := by decide +kernel
theorem dX9_turnAll_1 : decode cX9_turnAll 1 = .ok (.istore_n 1, 1) := by decide +kernel
theorem dX9_turnAll_2 : decode cX9_turnAll 2 = .ok (.iload_n 1, 1) := by decide +kernel
theorem dX9_turnAll_3 : decode cX9_turnAll 3 = .ok (.bipush 7, 2) := by decide +kernel
theorem dX9_turnAll_5 : decode cX9_turnAll 5 = .ok (.if_icmp .ge 166, 3) := by decide +kernel
theorem dX9_turnAll_8 : decode cX9_turnAll 8 = .ok (.aload_n 0, 1) := by decide +kernel
theorem dX9_turnAll_9 : decode cX9_turnAll 9 = .ok (.getfield 13, 3) := by decide +kernel
theorem dX9_turnAll_12 : decode cX9_turnAll 12 = .ok (.bipush 16, 2) := by decide +kernel
theorem dX9_turnAll_14 : decode cX9_turnAll 14 = .ok (.iaload, 1) := by decide +kernel
theorem dX9_turnAll_15 : decode cX9_turnAll 15 = .ok (.aload_n 0, 1) := by decide +kernel
theorem dX9_turnAll_16 : decode cX9_turnAll 16 = .ok (.getfield 13, 3) := by decide +kernel
theorem dX9_turnAll_19 : decode cX9_turnAll 19 = .ok (.iload_n 1, 1) := by decide +kernel
theorem dX9_turnAll_20 : decode cX9_turnAll 20 = .ok (.iaload, 1) := by decide +kernel
theorem dX9_turnAll_21 : decode cX9_turnAll 21 = .ok (.isub, 1) := by decide +kernel
theorem dX9_turnAll_22 : decode cX9_turnAll 22 = .ok (.bipush 8, 2) := by decide +kernel
theorem dX9_turnAll_24 : decode cX9_turnAll 24 = .ok (.iadd, 1) := by decide +kernel
theorem dX9_turnAll_25 : decode cX9_turnAll 25 = .ok (.bipush 8, 2) := by decide +kernel
theorem dX9_turnAll_27 : decode cX9_turnAll 27 = .ok (.irem, 1) := by decide +kernel
theorem dX9_turnAll_28 : decode cX9_turnAll 28 = .ok (.istore_n 2, 1) := by decide +kernel
theorem dX9_turnAll_29 : decode cX9_turnAll 29 = .ok (.aload_n 0, 1) := by decide +kernel
theorem dX9_turnAll_30 : decode cX9_turnAll 30 = .ok (.iload_n 1, 1) := by decide +kernel
theorem dX9_turnAll_31 : decode cX9_turnAll 31 = .ok (.invokevirtual 77, 3) := by decide +kernel
theorem dX9_turnAll_34 : decode cX9_turnAll 34 = .ok (.ifCond .eq 25, 3) := by decide +kernel
theorem dX9_turnAll_37 : decode cX9_turnAll 37 = .ok (.aload_n 0, 1) := by decide +kernel
theorem dX9_turnAll_38 : decode cX9_turnAll 38 = .ok (.getfield 13, 3) := by decide +kernel
theorem dX9_turnAll_41 : decode cX9_turnAll 41 = .ok (.bipush 14, 2) := by decide +kernel
theorem dX9_turnAll_43 : decode cX9_turnAll 43 = .ok (.iaload, 1) := by decide +kernel
theorem dX9_turnAll_44 : decode cX9_turnAll 44 = .ok (.iload_n 1, 1) := by decide +kernel
theorem dX9_turnAll_45 : decode cX9_turnAll 45 = .ok (.invokestatic 56, 3) := by decide +kernel
theorem dX9_turnAll_48 : decode cX9_turnAll 48 = .ok (.ifCond .eq 11, 3) := by decide +kernel
theorem dX9_turnAll_51 : decode cX9_turnAll 51 = .ok (.iload_n 2, 1) := by decide +kernel
theorem dX9_turnAll_52 : decode cX9_turnAll 52 = .ok (.ifCond .le 7, 3) := by decide +kernel
theorem dX9_turnAll_55 : decode cX9_turnAll 55 = .ok (.iconst 1, 1) := by decide +kernel
theorem dX9_turnAll_56 : decode cX9_turnAll 56 = .ok (.goto 4, 3) := by decide +kernel
theorem dX9_turnAll_59 : decode cX9_turnAll 59 = .ok (.iconst 0, 1) := by decide +kernel
theorem dX9_turnAll_60 : decode cX9_turnAll 60 = .ok (.istore_n 3, 1) := by decide +kernel
theorem dX9_turnAll_61 : decode cX9_turnAll 61 = .ok (.iload_n 3, 1) := by decide +kernel
theorem dX9_turnAll_62 : decode cX9_turnAll 62 = .ok (.ifCond .eq 30, 3) := by decide +kernel
theorem dX9_turnAll_65 : decode cX9_turnAll 65 = .ok (.aload_n 0, 1) := by decide +kernel
theorem dX9_turnAll_66 : decode cX9_turnAll 66 = .ok (.getfield 13, 3) := by decide +kernel
theorem dX9_turnAll_69 : decode cX9_turnAll 69 = .ok (.iload_n 1, 1) := by decide +kernel
theorem dX9_turnAll_70 : decode cX9_turnAll 70 = .ok (.aload_n 0, 1) := by decide +kernel
theorem dX9_turnAll_71 : decode cX9_turnAll 71 = .ok (.getfield 13, 3) := by decide +kernel
theorem dX9_turnAll_74 : decode cX9_turnAll 74 = .ok (.iload_n 1, 1) := by decide +kernel
theorem dX9_turnAll_75 : decode cX9_turnAll 75 = .ok (.iaload, 1) := by decide +kernel
theorem dX9_turnAll_76 : decode cX9_turnAll 76 = .ok (.iload_n 2, 1) := by decide +kernel
theorem dX9_turnAll_77 : decode cX9_turnAll 77 = .ok (.iconst 5, 1) := by decide +kernel
theorem dX9_turnAll_78 : decode cX9_turnAll 78 = .ok (.if_icmp .ge 7, 3) := by decide +kernel
theorem dX9_turnAll_81 : decode cX9_turnAll 81 = .ok (.iconst 1, 1) := by decide +kernel
theorem dX9_turnAll_82 : decode cX9_turnAll 82 = .ok (.goto 5, 3) := by decide +kernel
theorem dX9_turnAll_85 : decode cX9_turnAll 85 = .ok (.bipush 7, 2) := by decide +kernel
theorem dX9_turnAll_87 : decode cX9_turnAll 87 = .ok (.iadd, 1) := by decide +kernel
theorem dX9_turnAll_88 : decode cX9_turnAll 88 = .ok (.bipush 8, 2) := by decide +kernel
theorem dX9_turnAll_90 : decode cX9_turnAll 90 = .ok (.irem, 1) := by decide +kernel
theorem dX9_turnAll_91 : decode cX9_turnAll 91 = .ok (.iastore, 1) := by decide +kernel
theorem dX9_turnAll_92 : decode cX9_turnAll 92 = .ok (.aload_n 0, 1) := by decide +kernel
theorem dX9_turnAll_93 : decode cX9_turnAll 93 = .ok (.getfield 13, 3) := by decide +kernel
theorem dX9_turnAll_96 : decode cX9_turnAll 96 = .ok (.bipush 7, 2) := by decide +kernel
theorem dX9_turnAll_98 : decode cX9_turnAll 98 = .ok (.iload_n 1, 1) := by decide +kernel
theorem dX9_turnAll_99 : decode cX9_turnAll 99 = .ok (.iadd, 1) := by decide +kernel
theorem dX9_turnAll_100 : decode cX9_turnAll 100 = .ok (.iaload, 1) := by decide +kernel
theorem dX9_turnAll_101 : decode cX9_turnAll 101 = .ok (.iload_n 3, 1) := by decide +kernel
theorem dX9_turnAll_102 : decode cX9_turnAll 102 = .ok (.ifCond .eq 7, 3) := by decide +kernel
theorem dX9_turnAll_105 : decode cX9_turnAll 105 = .ok (.iconst 1, 1) := by decide +kernel
theorem dX9_turnAll_106 : decode cX9_turnAll 106 = .ok (.goto 4, 3) := by decide +kernel
theorem dX9_turnAll_109 : decode cX9_turnAll 109 = .ok (.iconst (-1), 1) := by decide +kernel
theorem dX9_turnAll_110 : decode cX9_turnAll 110 = .ok (.iadd, 1) := by decide +kernel
theorem dX9_turnAll_111 : decode cX9_turnAll 111 = .ok (.istore 4, 2) := by decide +kernel
theorem dX9_turnAll_113 : decode cX9_turnAll 113 = .ok (.aload_n 0, 1) := by decide +kernel
theorem dX9_turnAll_114 : decode cX9_turnAll 114 = .ok (.getfield 13, 3) := by decide +kernel
theorem dX9_turnAll_117 : decode cX9_turnAll 117 = .ok (.bipush 7, 2) := by decide +kernel
theorem dX9_turnAll_119 : decode cX9_turnAll 119 = .ok (.iload_n 1, 1) := by decide +kernel
theorem dX9_turnAll_120 : decode cX9_turnAll 120 = .ok (.iadd, 1) := by decide +kernel
theorem dX9_turnAll_121 : decode cX9_turnAll 121 = .ok (.aload_n 0, 1) := by decide +kernel
theorem dX9_turnAll_122 : decode cX9_turnAll 122 = .ok (.iload_n 1, 1) := by decide +kernel
theorem dX9_turnAll_123 : decode cX9_turnAll 123 = .ok (.invokevirtual 77, 3) := by decide +kernel
theorem dX9_turnAll_126 : decode cX9_turnAll 126 = .ok (.ifCond .ne 15, 3) := by decide +kernel
theorem dX9_turnAll_129 : decode cX9_turnAll 129 = .ok (.aload_n 0, 1) := by decide +kernel
theorem dX9_turnAll_130 : decode cX9_turnAll 130 = .ok (.getfield 13, 3) := by decide +kernel
theorem dX9_turnAll_133 : decode cX9_turnAll 133 = .ok (.bipush 7, 2) := by decide +kernel
theorem dX9_turnAll_135 : decode cX9_turnAll 135 = .ok (.iload_n 1, 1) := by decide +kernel
theorem dX9_turnAll_136 : decode cX9_turnAll 136 = .ok (.iadd, 1) := by decide +kernel
theorem dX9_turnAll_137 : decode cX9_turnAll 137 = .ok (.iaload, 1) := by decide +kernel
theorem dX9_turnAll_138 : decode cX9_turnAll 138 = .ok (.goto 26, 3) := by decide +kernel
theorem dX9_turnAll_141 : decode cX9_turnAll 141 = .ok (.iload 4, 2) := by decide +kernel
theorem dX9_turnAll_143 : decode cX9_turnAll 143 = .ok (.bipush 9, 2) := by decide +kernel
theorem dX9_turnAll_145 : decode cX9_turnAll 145 = .ok (.if_icmp .le 8, 3) := by decide +kernel
theorem dX9_turnAll_148 : decode cX9_turnAll 148 = .ok (.bipush 9, 2) := by decide +kernel
theorem dX9_turnAll_150 : decode cX9_turnAll 150 = .ok (.goto 14, 3) := by decide +kernel
theorem dX9_turnAll_153 : decode cX9_turnAll 153 = .ok (.iload 4, 2) := by decide +kernel
theorem dX9_turnAll_155 : decode cX9_turnAll 155 = .ok (.ifCond .ge 7, 3) := by decide +kernel
theorem dX9_turnAll_158 : decode cX9_turnAll 158 = .ok (.iconst 0, 1) := by decide +kernel
theorem dX9_turnAll_159 : decode cX9_turnAll 159 = .ok (.goto 5, 3) := by decide +kernel
theorem dX9_turnAll_162 : decode cX9_turnAll 162 = .ok (.iload 4, 2) := by decide +kernel
theorem dX9_turnAll_164 : decode cX9_turnAll 164 = .ok (.iastore, 1) := by decide +kernel
theorem dX9_turnAll_165 : decode cX9_turnAll 165 = .ok (.iinc 1 1, 3) := by decide +kernel
theorem dX9_turnAll_168 : decode cX9_turnAll 168 = .ok (.goto (-166), 3) := by decide +kernel
theorem dX9_turnAll_171 : decode cX9_turnAll 171 = .ok (.return_, 1) := by decide +kernel
set_option maxRecDepth 20000 in
theorem ggX9_endHour_X9_turnAll : GoodIn wsX9_endHour wsX9_turnAll := goodIn_r _ [6, 1, 7, 8, 9, 5, 10, 11, 12, 13, 14, 15, 16, 17, 18, 19, 20, 21, 22, 23, 24, 25, 26, 27, 28, 29, 30, 31, 32, 33, 34, 35, 36] (by decide +kernel) (by decide +kernel)
set_option maxRecDepth 20000 in
theorem gX9_endHour_X9_turnAll : GoodIn wsX9_endHour (wsV RX9 91 RX9 yX9_turnAll wsX9_turnAll) := goodIn_app (goodIn_of _ (by decide +kernel)) ggX9_endHour_X9_turnAll
theorem dX9_endHour_0 : decode cX9_endHour 0 = .ok (.aload_n 0, 1) := by decide +kernel
theorem dX9_endHour_1 : decode cX9_endHour 1 = .ok (.getfield 13, 3) := by decide +kernel
theorem dX9_endHour_4 : decode cX9_endHour 4 = .ok (.bipush 18, 2) := by decide +kernel
theorem dX9_endHour_6 : decode cX9_endHour 6 = .ok (.iaload, 1) := by decide +kernel
theorem dX9_endHour_7 : decode cX9_endHour 7 = .ok (.bipush 99, 2) := by decide +kernel
theorem dX9_endHour_9 : decode cX9_endHour 9 = .ok (.if_icmp .ne 6, 3) := by decide +kernel
theorem dX9_endHour_12 : decode cX9_endHour 12 = .ok (.bipush 7, 2) := by decide +kernel
theorem dX9_endHour_14 : decode cX9_endHour 14 = .ok (.ireturn, 1) := by decide +kernel
theorem dX9_endHour_15 : decode cX9_endHour 15 = .ok (.aload_n 0, 1) := by decide +kernel
theorem dX9_endHour_16 : decode cX9_endHour 16 = .ok (.getfield 13, 3) := by decide +kernel
theorem dX9_endHour_19 : decode cX9_endHour 19 = .ok (.bipush 18, 2) := by decide +kernel
theorem dX9_endHour_21 : decode cX9_endHour 21 = .ok (.dup2, 1) := by decide +kernel
theorem dX9_endHour_22 : decode cX9_endHour 22 = .ok (.iaload, 1) := by decide +kernel
theorem dX9_endHour_23 : decode cX9_endHour 23 = .ok (.iconst 1, 1) := by decide +kernel
theorem dX9_endHour_24 : decode cX9_endHour 24 = .ok (.iadd, 1) := by decide +kernel
theorem dX9_endHour_25 : decode cX9_endHour 25 = .ok (.iastore, 1) := by decide +kernel
theorem dX9_endHour_26 : decode cX9_endHour 26 = .ok (.aload_n 0, 1) := by decide +kernel
theorem dX9_endHour_27 : decode cX9_endHour 27 = .ok (.invokevirtual 91, 3) := by decide +kernel
theorem dX9_endHour_30 : decode cX9_endHour 30 = .ok (.iconst 0, 1) := by decide +kernel
theorem dX9_endHour_31 : decode cX9_endHour 31 = .ok (.ireturn, 1) := by decide +kernel
set_option maxRecDepth 20000 in
theorem ggX9_goWeeks_X9_asNow : GoodIn wsX9_goWeeks wsX9_asNow := goodIn_r _ [12, 4, 13, 6, 7, 67, 68, 69, 70, 71, 72, 73, 74, 75, 76, 77, 78, 79, 80, 81, 82, 83, 84, 85] (by decide +kernel) (by decide +kernel)
set_option maxRecDepth 20000 in
theorem gX9_goWeeks_X9_asNow : GoodIn wsX9_goWeeks (wsV RX9 94 RX9 yX9_asNow wsX9_asNow) := goodIn_app (goodIn_of _ (by decide +kernel)) ggX9_goWeeks_X9_asNow
set_option maxRecDepth 20000 in
theorem ggX9_goWeeks_X9_endHour : GoodIn wsX9_goWeeks wsX9_endHour := goodIn_r _ [17, 4, 18, 19, 20, 11, 21, 22, 23, 24, 25, 26, 27, 28, 29, 30, 31, 32, 67, 68, 69, 70, 71, 72, 73, 74, 75, 76, 77, 78, 79, 80, 81, 82, 83, 84, 85] (by decide +kernel) (by decide +kernel)
set_option maxRecDepth 20000 in
theorem gX9_goWeeks_X9_endHour : GoodIn wsX9_goWeeks (wsV RX9 100 RX9 yX9_endHour wsX9_endHour) := goodIn_app (goodIn_of _ (by decide +kernel)) ggX9_goWeeks_X9_endHour
set_option maxRecDepth 20000 in
theorem ggX9_goWeeks_X9_blow : GoodIn wsX9_goWeeks wsX9_blow := goodIn_r _ [36, 4, 67, 68, 69, 70, 71, 72, 73, 74, 75, 76, 77, 78, 79, 80, 81, 82, 83, 84, 85] (by decide +kernel) (by decide +kernel)
set_option maxRecDepth 20000 in
theorem gX9_goWeeks_X9_blow : GoodIn wsX9_goWeeks (wsV RX9 106 RX9 yX9_blow wsX9_blow) := goodIn_app (goodIn_of _ (by decide +kernel)) ggX9_goWeeks_X9_blow
set_option maxRecDepth 20000 in
theorem ggX9_goWeeks_X9_vote : GoodIn wsX9_goWeeks wsX9_vote := goodIn_r _ [40, 26, 4, 41, 42, 43, 11, 44, 45, 46, 47, 48, 22, 23, 24, 25, 27, 28, 29, 30, 31, 32, 49, 50, 51, 52, 53, 54, 67, 68, 69, 70, 71, 72, 73, 74, 75, 76, 77, 78, 79, 80, 81, 82, 83, 84, 85] (by decide +kernel) (by decide +kernel)
set_option maxRecDepth 20000 in
theorem gX9_goWeeks_X9_vote : GoodIn wsX9_goWeeks (wsV RX9 109 RX9 yX9_vote wsX9_vote) := goodIn_app (goodIn_of _ (by decide +kernel)) ggX9_goWeeks_X9_vote
set_option maxRecDepth 20000 in
theorem ggX9_goWeeks_X9_oil : GoodIn wsX9_goWeeks wsX9_oil := goodIn_r _ [58, 4, 22, 23, 24, 11, 25, 26, 27, 28, 29, 30, 31, 32, 67, 68, 69, 70, 71, 72, 73, 74, 75, 76, 77, 78, 79, 80, 81, 82, 83, 84, 85] (by decide +kernel) (by decide +kernel)
set_option maxRecDepth 20000 in
theorem gX9_goWeeks_X9_oil : GoodIn wsX9_goWeeks (wsV RX9 112 RX9 yX9_oil wsX9_oil) := goodIn_app (goodIn_of _ (by decide +kernel)) ggX9_goWeeks_X9_oil
set_option maxRecDepth 20000 in
theorem ggX9_goWeeks_X9_wire : GoodIn wsX9_goWeeks wsX9_wire := goodIn_r _ [62, 4, 22, 23, 24, 11, 25, 26, 27, 28, 29, 30, 31, 32, 67, 68, 69, 70, 71, 72, 73, 74, 75, 76, 77, 78, 79, 80, 81, 82, 83, 84, 85] (by decide +kernel) (by decide +kernel)
set_option maxRecDepth 20000 in
theorem gX9_goWeeks_X9_wire : GoodIn wsX9_goWeeks (wsV RX9 115 RX9 yX9_wire wsX9_wire) := goodIn_app (goodIn_of _ (by decide +kernel)) ggX9_goWeeks_X9_wire
set_option maxRecDepth 20000 in
theorem ggX9_goWeeks_X9_hand : GoodIn wsX9_goWeeks wsX9_hand := goodIn_r _ [66, 4, 22, 23, 24, 11, 25, 26, 27, 28, 29, 30, 31, 32, 67, 68, 69, 70, 71, 72, 73, 74, 75, 76, 77, 78, 79, 80, 81, 82, 83, 84, 85] (by decide +kernel) (by decide +kernel)
set_option maxRecDepth 20000 in
theorem gX9_goWeeks_X9_hand : GoodIn wsX9_goWeeks (wsV RX9 118 RX9 yX9_hand wsX9_hand) := goodIn_app (goodIn_of _ (by decide +kernel)) ggX9_goWeeks_X9_hand
theorem dX9_goWeeks_0 : decode cX9_goWeeks 0 = .ok (.aload_n 0, 1) := by decide +kernel
theorem dX9_goWeeks_1 : decode cX9_goWeeks 1 = .ok (.invokevirtual 94, 3) := by decide +kernel
theorem dX9_goWeeks_4 : decode cX9_goWeeks 4 = .ok (.aload_n 0, 1) := by decide +kernel
theorem dX9_goWeeks_5 : decode cX9_goWeeks 5 = .ok (.iconst 0, 1) := by decide +kernel
theorem dX9_goWeeks_6 : decode cX9_goWeeks 6 = .ok (.putfield 97, 3) := by decide +kernel
theorem dX9_goWeeks_9 : decode cX9_goWeeks 9 = .ok (.iconst 0, 1) := by decide +kernel
theorem dX9_goWeeks_10 : decode cX9_goWeeks 10 = .ok (.istore_n 1, 1) := by decide +kernel
theorem dX9_goWeeks_11 : decode cX9_goWeeks 11 = .ok (.iload_n 1, 1) := by decide +kernel
theorem dX9_goWeeks_12 : decode cX9_goWeeks 12 = .ok (.aload_n 0, 1) := by decide +kernel
theorem dX9_goWeeks_13 : decode cX9_goWeeks 13 = .ok (.getfield 64, 3) := by decide +kernel
theorem dX9_goWeeks_16 : decode cX9_goWeeks 16 = .ok (.if_icmp .ge 210, 3) := by decide +kernel
theorem dX9_goWeeks_19 : decode cX9_goWeeks 19 = .ok (.aload_n 0, 1) := by decide +kernel
theorem dX9_goWeeks_20 : decode cX9_goWeeks 20 = .ok (.getfield 22, 3) := by decide +kernel
theorem dX9_goWeeks_23 : decode cX9_goWeeks 23 = .ok (.iload_n 1, 1) := by decide +kernel
theorem dX9_goWeeks_24 : decode cX9_goWeeks 24 = .ok (.iaload, 1) := by decide +kernel
theorem dX9_goWeeks_25 : decode cX9_goWeeks 25 = .ok (.istore_n 2, 1) := by decide +kernel
theorem dX9_goWeeks_26 : decode cX9_goWeeks 26 = .ok (.aload_n 0, 1) := by decide +kernel
theorem dX9_goWeeks_27 : decode cX9_goWeeks 27 = .ok (.getfield 13, 3) := by decide +kernel
theorem dX9_goWeeks_30 : decode cX9_goWeeks 30 = .ok (.bipush 15, 2) := by decide +kernel
theorem dX9_goWeeks_32 : decode cX9_goWeeks 32 = .ok (.iaload, 1) := by decide +kernel
theorem dX9_goWeeks_33 : decode cX9_goWeeks 33 = .ok (.istore_n 3, 1) := by decide +kernel
theorem dX9_goWeeks_34 : decode cX9_goWeeks 34 = .ok (.iload_n 2, 1) := by decide +kernel
theorem dX9_goWeeks_35 : decode cX9_goWeeks 35 = .ok (.bipush 46, 2) := by decide +kernel
theorem dX9_goWeeks_37 : decode cX9_goWeeks 37 = .ok (.if_icmp .ne 17, 3) := by decide +kernel
theorem dX9_goWeeks_40 : decode cX9_goWeeks 40 = .ok (.aload_n 0, 1) := by decide +kernel
theorem dX9_goWeeks_41 : decode cX9_goWeeks 41 = .ok (.aload_n 0, 1) := by decide +kernel
theorem dX9_goWeeks_42 : decode cX9_goWeeks 42 = .ok (.invokevirtual 100, 3) := by decide +kernel
theorem dX9_goWeeks_45 : decode cX9_goWeeks 45 = .ok (.putfield 103, 3) := by decide +kernel
theorem dX9_goWeeks_48 : decode cX9_goWeeks 48 = .ok (.iinc 1 1, 3) := by decide +kernel
theorem dX9_goWeeks_51 : decode cX9_goWeeks 51 = .ok (.goto 150, 3) := by decide +kernel
theorem dX9_goWeeks_54 : decode cX9_goWeeks 54 = .ok (.aload_n 0, 1) := by decide +kernel
theorem dX9_goWeeks_55 : decode cX9_goWeeks 55 = .ok (.getfield 22, 3) := by decide +kernel
theorem dX9_goWeeks_58 : decode cX9_goWeeks 58 = .ok (.iload_n 1, 1) := by decide +kernel
theorem dX9_goWeeks_59 : decode cX9_goWeeks 59 = .ok (.iconst 1, 1) := by decide +kernel
theorem dX9_goWeeks_60 : decode cX9_goWeeks 60 = .ok (.iadd, 1) := by decide +kernel
theorem dX9_goWeeks_61 : decode cX9_goWeeks 61 = .ok (.iaload, 1) := by decide +kernel
theorem dX9_goWeeks_62 : decode cX9_goWeeks 62 = .ok (.istore 4, 2) := by decide +kernel
theorem dX9_goWeeks_64 : decode cX9_goWeeks 64 = .ok (.iload_n 2, 1) := by decide +kernel
theorem dX9_goWeeks_65 : decode cX9_goWeeks 65 = .ok (.bipush 65, 2) := by decide +kernel
theorem dX9_goWeeks_67 : decode cX9_goWeeks 67 = .ok (.isub, 1) := by decide +kernel
theorem dX9_goWeeks_68 : decode cX9_goWeeks 68 = .ok (.istore 5, 2) := by decide +kernel
theorem dX9_goWeeks_70 : decode cX9_goWeeks 70 = .ok (.aload_n 0, 1) := by decide +kernel
theorem dX9_goWeeks_71 : decode cX9_goWeeks 71 = .ok (.iload_n 2, 1) := by decide +kernel
theorem dX9_goWeeks_72 : decode cX9_goWeeks 72 = .ok (.bipush 119, 2) := by decide +kernel
theorem dX9_goWeeks_74 : decode cX9_goWeeks 74 = .ok (.if_icmp .ne 15, 3) := by decide +kernel
theorem dX9_goWeeks_77 : decode cX9_goWeeks 77 = .ok (.aload_n 0, 1) := by decide +kernel
theorem dX9_goWeeks_78 : decode cX9_goWeeks 78 = .ok (.iload 4, 2) := by decide +kernel
theorem dX9_goWeeks_80 : decode cX9_goWeeks 80 = .ok (.bipush 48, 2) := by decide +kernel
theorem dX9_goWeeks_82 : decode cX9_goWeeks 82 = .ok (.isub, 1) := by decide +kernel
theorem dX9_goWeeks_83 : decode cX9_goWeeks 83 = .ok (.invokevirtual 106, 3) := by decide +kernel
theorem dX9_goWeeks_86 : decode cX9_goWeeks 86 = .ok (.goto 64, 3) := by decide +kernel
theorem dX9_goWeeks_89 : decode cX9_goWeeks 89 = .ok (.iload_n 2, 1) := by decide +kernel
theorem dX9_goWeeks_90 : decode cX9_goWeeks 90 = .ok (.bipush 118, 2) := by decide +kernel
theorem dX9_goWeeks_92 : decode cX9_goWeeks 92 = .ok (.if_icmp .ne 15, 3) := by decide +kernel
theorem dX9_goWeeks_95 : decode cX9_goWeeks 95 = .ok (.aload_n 0, 1) := by decide +kernel
theorem dX9_goWeeks_96 : decode cX9_goWeeks 96 = .ok (.iload 4, 2) := by decide +kernel
theorem dX9_goWeeks_98 : decode cX9_goWeeks 98 = .ok (.bipush 48, 2) := by decide +kernel
theorem dX9_goWeeks_100 : decode cX9_goWeeks 100 = .ok (.isub, 1) := by decide +kernel
theorem dX9_goWeeks_101 : decode cX9_goWeeks 101 = .ok (.invokevirtual 109, 3) := by decide +kernel
theorem dX9_goWeeks_104 : decode cX9_goWeeks 104 = .ok (.goto 46, 3) := by decide +kernel
theorem dX9_goWeeks_107 : decode cX9_goWeeks 107 = .ok (.iload 4, 2) := by decide +kernel
theorem dX9_goWeeks_109 : decode cX9_goWeeks 109 = .ok (.bipush 42, 2) := by decide +kernel
theorem dX9_goWeeks_111 : decode cX9_goWeeks 111 = .ok (.if_icmp .ne 12, 3) := by decide +kernel
theorem dX9_goWeeks_114 : decode cX9_goWeeks 114 = .ok (.aload_n 0, 1) := by decide +kernel
theorem dX9_goWeeks_115 : decode cX9_goWeeks 115 = .ok (.iload 5, 2) := by decide +kernel
theorem dX9_goWeeks_117 : decode cX9_goWeeks 117 = .ok (.invokevirtual 112, 3) := by decide +kernel
theorem dX9_goWeeks_120 : decode cX9_goWeeks 120 = .ok (.goto 30, 3) := by decide +kernel
theorem dX9_goWeeks_123 : decode cX9_goWeeks 123 = .ok (.iload 4, 2) := by decide +kernel
theorem dX9_goWeeks_125 : decode cX9_goWeeks 125 = .ok (.bipush 35, 2) := by decide +kernel
theorem dX9_goWeeks_127 : decode cX9_goWeeks 127 = .ok (.if_icmp .ne 12, 3) := by decide +kernel
theorem dX9_goWeeks_130 : decode cX9_goWeeks 130 = .ok (.aload_n 0, 1) := by decide +kernel
theorem dX9_goWeeks_131 : decode cX9_goWeeks 131 = .ok (.iload 5, 2) := by decide +kernel
theorem dX9_goWeeks_133 : decode cX9_goWeeks 133 = .ok (.invokevirtual 115, 3) := by decide +kernel
theorem dX9_goWeeks_136 : decode cX9_goWeeks 136 = .ok (.goto 14, 3) := by decide +kernel
theorem dX9_goWeeks_139 : decode cX9_goWeeks 139 = .ok (.aload_n 0, 1) := by decide +kernel
theorem dX9_goWeeks_140 : decode cX9_goWeeks 140 = .ok (.iload 5, 2) := by decide +kernel
theorem dX9_goWeeks_142 : decode cX9_goWeeks 142 = .ok (.iload 4, 2) := by decide +kernel
theorem dX9_goWeeks_144 : decode cX9_goWeeks 144 = .ok (.bipush 48, 2) := by decide +kernel
theorem dX9_goWeeks_146 : decode cX9_goWeeks 146 = .ok (.isub, 1) := by decide +kernel
theorem dX9_goWeeks_147 : decode cX9_goWeeks 147 = .ok (.invokevirtual 118, 3) := by decide +kernel
theorem dX9_goWeeks_150 : decode cX9_goWeeks 150 = .ok (.putfield 103, 3) := by decide +kernel
theorem dX9_goWeeks_153 : decode cX9_goWeeks 153 = .ok (.iinc 1 2, 3) := by decide +kernel
theorem dX9_goWeeks_156 : decode cX9_goWeeks 156 = .ok (.aload_n 0, 1) := by decide +kernel
theorem dX9_goWeeks_157 : decode cX9_goWeeks 157 = .ok (.getfield 71, 3) := by decide +kernel
theorem dX9_goWeeks_160 : decode cX9_goWeeks 160 = .ok (.ifCond .ge 41, 3) := by decide +kernel
theorem dX9_goWeeks_163 : decode cX9_goWeeks 163 = .ok (.aload_n 0, 1) := by decide +kernel
theorem dX9_goWeeks_164 : decode cX9_goWeeks 164 = .ok (.getfield 103, 3) := by decide +kernel
theorem dX9_goWeeks_167 : decode cX9_goWeeks 167 = .ok (.ifCond .ne 34, 3) := by decide +kernel
theorem dX9_goWeeks_170 : decode cX9_goWeeks 170 = .ok (.aload_n 0, 1) := by decide +kernel
theorem dX9_goWeeks_171 : decode cX9_goWeeks 171 = .ok (.getfield 13, 3) := by decide +kernel
theorem dX9_goWeeks_174 : decode cX9_goWeeks 174 = .ok (.bipush 15, 2) := by decide +kernel
theorem dX9_goWeeks_176 : decode cX9_goWeeks 176 = .ok (.iaload, 1) := by decide +kernel
theorem dX9_goWeeks_177 : decode cX9_goWeeks 177 = .ok (.iload_n 3, 1) := by decide +kernel
theorem dX9_goWeeks_178 : decode cX9_goWeeks 178 = .ok (.iconst (-1), 1) := by decide +kernel
theorem dX9_goWeeks_179 : decode cX9_goWeeks 179 = .ok (.ixor, 1) := by decide +kernel
theorem dX9_goWeeks_180 : decode cX9_goWeeks 180 = .ok (.iand, 1) := by decide +kernel
theorem dX9_goWeeks_181 : decode cX9_goWeeks 181 = .ok (.ifCond .eq 20, 3) := by decide +kernel
theorem dX9_goWeeks_184 : decode cX9_goWeeks 184 = .ok (.aload_n 0, 1) := by decide +kernel
theorem dX9_goWeeks_185 : decode cX9_goWeeks 185 = .ok (.aload_n 0, 1) := by decide +kernel
theorem dX9_goWeeks_186 : decode cX9_goWeeks 186 = .ok (.getfield 97, 3) := by decide +kernel
theorem dX9_goWeeks_189 : decode cX9_goWeeks 189 = .ok (.putfield 71, 3) := by decide +kernel
theorem dX9_goWeeks_192 : decode cX9_goWeeks 192 = .ok (.aload_n 0, 1) := by decide +kernel
theorem dX9_goWeeks_193 : decode cX9_goWeeks 193 = .ok (.iload 4, 2) := by decide +kernel
theorem dX9_goWeeks_195 : decode cX9_goWeeks 195 = .ok (.bipush 48, 2) := by decide +kernel
theorem dX9_goWeeks_197 : decode cX9_goWeeks 197 = .ok (.isub, 1) := by decide +kernel
theorem dX9_goWeeks_198 : decode cX9_goWeeks 198 = .ok (.putfield 74, 3) := by decide +kernel
theorem dX9_goWeeks_201 : decode cX9_goWeeks 201 = .ok (.aload_n 0, 1) := by decide +kernel
theorem dX9_goWeeks_202 : decode cX9_goWeeks 202 = .ok (.getfield 103, 3) := by decide +kernel
theorem dX9_goWeeks_205 : decode cX9_goWeeks 205 = .ok (.ifCond .le 8, 3) := by decide +kernel
theorem dX9_goWeeks_208 : decode cX9_goWeeks 208 = .ok (.aload_n 0, 1) := by decide +kernel
theorem dX9_goWeeks_209 : decode cX9_goWeeks 209 = .ok (.getfield 97, 3) := by decide +kernel
theorem dX9_goWeeks_212 : decode cX9_goWeeks 212 = .ok (.ireturn, 1) := by decide +kernel
theorem dX9_goWeeks_213 : decode cX9_goWeeks 213 = .ok (.aload_n 0, 1) := by decide +kernel
theorem dX9_goWeeks_214 : decode cX9_goWeeks 214 = .ok (.dup, 1) := by decide +kernel
theorem dX9_goWeeks_215 : decode cX9_goWeeks 215 = .ok (.getfield 97, 3) := by decide +kernel
theorem dX9_goWeeks_218 : decode cX9_goWeeks 218 = .ok (.iconst 1, 1) := by decide +kernel
theorem dX9_goWeeks_219 : decode cX9_goWeeks 219 = .ok (.iadd, 1) := by decide +kernel
theorem dX9_goWeeks_220 : decode cX9_goWeeks 220 = .ok (.putfield 97, 3) := by decide +kernel
theorem dX9_goWeeks_223 : decode cX9_goWeeks 223 = .ok (.goto (-212), 3) := by decide +kernel
theorem dX9_goWeeks_226 : decode cX9_goWeeks 226 = .ok (.bipush (-6), 2) := by decide +kernel
theorem dX9_goWeeks_228 : decode cX9_goWeeks 228 = .ok (.ireturn, 1) := by decide +kernel
set_option maxRecDepth 20000 in
theorem ggX9_judge_X9_in : GoodIn wsX9_judge wsX9_in := goodIn_r _ [5] (by decide +kernel) (by decide +kernel)
set_option maxRecDepth 20000 in
theorem gX9_judge_X9_in : GoodIn wsX9_judge (va_wsS RX9 48 yX9_in wsX9_in) := goodIn_app (goodIn_of _ (by decide +kernel)) ggX9_judge_X9_in
set_option maxRecDepth 20000 in
theorem ggX9_judge_X9_faultOf : GoodIn wsX9_judge wsX9_faultOf := goodIn_r _ [9, 10, 11, 2, 3, 4, 5, 75, 76, 77, 78, 79, 80, 81, 82, 83, 84, 85, 86, 87, 88, 89, 90, 91, 92, 93] (by decide +kernel) (by decide +kernel)
set_option maxRecDepth 20000 in
theorem gX9_judge_X9_faultOf : GoodIn wsX9_judge (wsV RX9 67 RX9 yX9_faultOf wsX9_faultOf) := goodIn_app (goodIn_of _ (by decide +kernel)) ggX9_judge_X9_faultOf
set_option maxRecDepth 20000 in
theorem ggX9_judge_X9_goWeeks : GoodIn wsX9_judge wsX9_goWeeks := goodIn_r _ [15, 16, 10, 11, 17, 1, 18, 19, 20, 21, 22, 4, 23, 24, 25, 26, 27, 28, 29, 30, 31, 32, 33, 34, 35, 36, 37, 2, 3, 5, 38, 39, 40, 41, 42, 43, 44, 45, 46, 47, 48, 49, 50, 51, 52, 53, 54, 55, 56, 57, 58, 59, 60, 61, 62, 63, 64, 65, 66, 67, 68, 69, 70, 71, 72, 73, 74, 75, 76, 77, 78, 79, 80, 81, 82, 83, 84, 85, 86, 87, 88, 89, 90, 91, 92, 93] (by decide +kernel) (by decide +kernel)
set_option maxRecDepth 20000 in
theorem gX9_judge_X9_goWeeks : GoodIn wsX9_judge (wsV RX9 121 RX9 yX9_goWeeks wsX9_goWeeks) := goodIn_app (goodIn_of _ (by decide +kernel)) ggX9_judge_X9_goWeeks
theorem dX9_judge_0 : decode cX9_judge 0 = .ok (.iload_n 1, 1) := by decide +kernel
theorem dX9_judge_1 : decode cX9_judge 1 = .ok (.iconst 0, 1) := by decide +kernel
theorem dX9_judge_2 : decode cX9_judge 2 = .ok (.iconst 1, 1) := by decide +kernel
theorem dX9_judge_3 : decode cX9_judge 3 = .ok (.invokestatic 48, 3) := by decide +kernel
theorem dX9_judge_6 : decode cX9_judge 6 = .ok (.ifCond .ne 6, 3) := by decide +kernel
theorem dX9_judge_9 : decode cX9_judge 9 = .ok (.bipush (-2), 2) := by decide +kernel
theorem dX9_judge_11 : decode cX9_judge 11 = .ok (.ireturn, 1) := by decide +kernel
theorem dX9_judge_12 : decode cX9_judge 12 = .ok (.aload_n 0, 1) := by decide +kernel
theorem dX9_judge_13 : decode cX9_judge 13 = .ok (.invokevirtual 67, 3) := by decide +kernel
theorem dX9_judge_16 : decode cX9_judge 16 = .ok (.ifCond .lt 6, 3) := by decide +kernel
theorem dX9_judge_19 : decode cX9_judge 19 = .ok (.bipush (-5), 2) := by decide +kernel
theorem dX9_judge_21 : decode cX9_judge 21 = .ok (.ireturn, 1) := by decide +kernel
theorem dX9_judge_22 : decode cX9_judge 22 = .ok (.aload_n 0, 1) := by decide +kernel
theorem dX9_judge_23 : decode cX9_judge 23 = .ok (.invokevirtual 121, 3) := by decide +kernel
theorem dX9_judge_26 : decode cX9_judge 26 = .ok (.istore_n 2, 1) := by decide +kernel
theorem dX9_judge_27 : decode cX9_judge 27 = .ok (.iload_n 2, 1) := by decide +kernel
theorem dX9_judge_28 : decode cX9_judge 28 = .ok (.ifCond .lt 7, 3) := by decide +kernel
theorem dX9_judge_31 : decode cX9_judge 31 = .ok (.iload_n 1, 1) := by decide +kernel
theorem dX9_judge_32 : decode cX9_judge 32 = .ok (.ifCond .ne 7, 3) := by decide +kernel
theorem dX9_judge_35 : decode cX9_judge 35 = .ok (.iload_n 2, 1) := by decide +kernel
theorem dX9_judge_36 : decode cX9_judge 36 = .ok (.goto 7, 3) := by decide +kernel
theorem dX9_judge_39 : decode cX9_judge 39 = .ok (.aload_n 0, 1) := by decide +kernel
theorem dX9_judge_40 : decode cX9_judge 40 = .ok (.getfield 103, 3) := by decide +kernel
theorem dX9_judge_43 : decode cX9_judge 43 = .ok (.ireturn, 1) := by decide +kernel
set_option maxRecDepth 20000 in
theorem ggX9_barOfWeeks_X9_faultOf : GoodIn wsX9_barOfWeeks wsX9_faultOf := goodIn_r _ [5, 6, 7, 8, 9, 4, 10, 75, 76, 77, 78, 79, 80, 81, 82, 83, 84, 85, 86, 87, 88, 89, 90, 91, 92, 93] (by decide +kernel) (by decide +kernel)
set_option maxRecDepth 20000 in
theorem gX9_barOfWeeks_X9_faultOf : GoodIn wsX9_barOfWeeks (wsV RX9 67 RX9 yX9_faultOf wsX9_faultOf) := goodIn_app (goodIn_of _ (by decide +kernel)) ggX9_barOfWeeks_X9_faultOf
set_option maxRecDepth 20000 in
theorem ggX9_barOfWeeks_X9_goWeeks : GoodIn wsX9_barOfWeeks wsX9_goWeeks := goodIn_r _ [14, 15, 6, 7, 16, 17, 18, 19, 20, 21, 22, 4, 23, 24, 25, 26, 27, 28, 29, 30, 31, 32, 33, 34, 35, 36, 37, 8, 9, 10, 38, 39, 40, 41, 42, 43, 44, 45, 46, 47, 48, 49, 50, 51, 52, 53, 54, 55, 56, 57, 58, 59, 60, 61, 62, 63, 64, 65, 66, 67, 68, 69, 70, 71, 72, 73, 74, 75, 76, 77, 78, 79, 80, 81, 82, 83, 84, 85, 86, 87, 88, 89, 90, 91, 92, 93] (by decide +kernel) (by decide +kernel)
set_option maxRecDepth 20000 in
theorem gX9_barOfWeeks_X9_goWeeks : GoodIn wsX9_barOfWeeks (wsV RX9 121 RX9 yX9_goWeeks wsX9_goWeeks) := goodIn_app (goodIn_of _ (by decide +kernel)) ggX9_barOfWeeks_X9_goWeeks
theorem dX9_barOfWeeks_0 : decode cX9_barOfWeeks 0 = .ok (.aload_n 0, 1) := by decide +kernel
theorem dX9_barOfWeeks_1 : decode cX9_barOfWeeks 1 = .ok (.invokevirtual 67, 3) := by decide +kernel
theorem dX9_barOfWeeks_4 : decode cX9_barOfWeeks 4 = .ok (.ifCond .ge 10, 3) := by decide +kernel
theorem dX9_barOfWeeks_7 : decode cX9_barOfWeeks 7 = .ok (.aload_n 0, 1) := by decide +kernel
theorem dX9_barOfWeeks_8 : decode cX9_barOfWeeks 8 = .ok (.invokevirtual 121, 3) := by decide +kernel
theorem dX9_barOfWeeks_11 : decode cX9_barOfWeeks 11 = .ok (.ifCond .lt 8, 3) := by decide +kernel
theorem dX9_barOfWeeks_14 : decode cX9_barOfWeeks 14 = .ok (.bipush (-5), 2) := by decide +kernel
theorem dX9_barOfWeeks_16 : decode cX9_barOfWeeks 16 = .ok (.goto 4, 3) := by decide +kernel
theorem dX9_barOfWeeks_19 : decode cX9_barOfWeeks 19 = .ok (.iconst 0, 1) := by decide +kernel
theorem dX9_barOfWeeks_20 : decode cX9_barOfWeeks 20 = .ok (.ireturn, 1) := by decide +kernel
set_option maxRecDepth 20000 in
theorem ggX9_done_X9_barOfWeeks : GoodIn wsX9_done wsX9_barOfWeeks := goodIn_r _ [9, 10, 11, 12, 8, 13, 3, 14, 15, 16, 17, 18, 19, 20, 21, 4, 2, 22, 23, 24, 25, 26, 27, 28, 1, 29, 30, 31, 32, 33, 34, 35, 36, 37, 38, 39, 40, 41, 42, 43, 44, 45, 46, 47, 48, 49, 50, 51, 52, 53, 54, 55, 56, 57, 58, 59, 60, 61, 62, 63, 64, 65, 66, 67, 68, 69, 70, 71, 72, 73, 74, 75, 76, 77, 78, 79, 80, 81, 82, 83, 84, 85, 86, 87, 88, 89, 90, 91, 92, 93, 94, 95, 96, 97] (by decide +kernel) (by decide +kernel)
set_option maxRecDepth 20000 in
theorem gX9_done_X9_barOfWeeks : GoodIn wsX9_done (wsV RX9 124 RX9 yX9_barOfWeeks wsX9_barOfWeeks) := goodIn_app (goodIn_of _ (by decide +kernel)) ggX9_done_X9_barOfWeeks
theorem dX9_done_0 : decode cX9_done 0 = .ok (.aload_n 0, 1) := by decide +kernel
theorem dX9_done_1 : decode cX9_done 1 = .ok (.invokevirtual 124, 3) := by decide +kernel
theorem dX9_done_4 : decode cX9_done 4 = .ok (.ifCond .ge 6, 3) := by decide +kernel
theorem dX9_done_7 : decode cX9_done 7 = .ok (.bipush (-5), 2) := by decide +kernel
theorem dX9_done_9 : decode cX9_done 9 = .ok (.ireturn, 1) := by decide +kernel
theorem dX9_done_10 : decode cX9_done 10 = .ok (.iconst 0, 1) := by decide +kernel
theorem dX9_done_11 : decode cX9_done 11 = .ok (.istore_n 1, 1) := by decide +kernel
theorem dX9_done_12 : decode cX9_done 12 = .ok (.iload_n 1, 1) := by decide +kernel
theorem dX9_done_13 : decode cX9_done 13 = .ok (.bipush 19, 2) := by decide +kernel
theorem dX9_done_15 : decode cX9_done 15 = .ok (.if_icmp .ge 21, 3) := by decide +kernel
theorem dX9_done_18 : decode cX9_done 18 = .ok (.aload_n 0, 1) := by decide +kernel
theorem dX9_done_19 : decode cX9_done 19 = .ok (.getfield 7, 3) := by decide +kernel
theorem dX9_done_22 : decode cX9_done 22 = .ok (.iload_n 1, 1) := by decide +kernel
theorem dX9_done_23 : decode cX9_done 23 = .ok (.aload_n 0, 1) := by decide +kernel
theorem dX9_done_24 : decode cX9_done 24 = .ok (.getfield 13, 3) := by decide +kernel
theorem dX9_done_27 : decode cX9_done 27 = .ok (.iload_n 1, 1) := by decide +kernel
theorem dX9_done_28 : decode cX9_done 28 = .ok (.iaload, 1) := by decide +kernel
theorem dX9_done_29 : decode cX9_done 29 = .ok (.iastore, 1) := by decide +kernel
theorem dX9_done_30 : decode cX9_done 30 = .ok (.iinc 1 1, 3) := by decide +kernel
theorem dX9_done_33 : decode cX9_done 33 = .ok (.goto (-21), 3) := by decide +kernel
theorem dX9_done_36 : decode cX9_done 36 = .ok (.aload_n 0, 1) := by decide +kernel
theorem dX9_done_37 : decode cX9_done 37 = .ok (.iconst 0, 1) := by decide +kernel
theorem dX9_done_38 : decode cX9_done 38 = .ok (.putfield 64, 3) := by decide +kernel
theorem dX9_done_41 : decode cX9_done 41 = .ok (.aload_n 0, 1) := by decide +kernel
theorem dX9_done_42 : decode cX9_done 42 = .ok (.getfield 97, 3) := by decide +kernel
theorem dX9_done_45 : decode cX9_done 45 = .ok (.ireturn, 1) := by decide +kernel
set_option maxRecDepth 20000 in
theorem ggX9_behind_X9_isThere : GoodIn wsX9_behind wsX9_isThere := goodIn_r _ [6, 7, 8, 9, 5, 10, 11, 12, 13, 79, 80, 81, 82, 83, 84, 85, 86, 87, 88, 89, 90, 91, 92, 93, 94, 95, 96, 97] (by decide +kernel) (by decide +kernel)
set_option maxRecDepth 20000 in
theorem gX9_behind_X9_isThere : GoodIn wsX9_behind (wsV RX9 77 RX9 yX9_isThere wsX9_isThere) := goodIn_app (goodIn_of _ (by decide +kernel)) ggX9_behind_X9_isThere
set_option maxRecDepth 20000 in
theorem ggX9_behind_X9_in : GoodIn wsX9_behind wsX9_in := goodIn_r _ [10] (by decide +kernel) (by decide +kernel)
set_option maxRecDepth 20000 in
theorem gX9_behind_X9_in : GoodIn wsX9_behind (va_wsS RX9 48 yX9_in wsX9_in) := goodIn_app (goodIn_of _ (by decide +kernel)) ggX9_behind_X9_in
set_option maxRecDepth 20000 in
theorem ggX9_behind_X9_barOfWeeks : GoodIn wsX9_behind wsX9_barOfWeeks := goodIn_r _ [17, 18, 19, 20, 5, 21, 22, 23, 8, 9, 10, 24, 25, 26, 27, 28, 1, 29, 30, 31, 32, 33, 34, 35, 36, 37, 38, 39, 40, 41, 42, 43, 44, 2, 3, 4, 6, 7, 11, 12, 13, 45, 46, 47, 48, 49, 50, 51, 52, 53, 54, 55, 56, 57, 58, 59, 60, 61, 62, 63, 64, 65, 66, 67, 68, 69, 70, 71, 72, 73, 74, 75, 76, 77, 78, 79, 80, 81, 82, 83, 84, 85, 86, 87, 88, 89, 90, 91, 92, 93, 94, 95, 96, 97] (by decide +kernel) (by decide +kernel)
set_option maxRecDepth 20000 in
theorem gX9_behind_X9_barOfWeeks : GoodIn wsX9_behind (wsV RX9 124 RX9 yX9_barOfWeeks wsX9_barOfWeeks) := goodIn_app (goodIn_of _ (by decide +kernel)) ggX9_behind_X9_barOfWeeks
theorem dX9_behind_0 : decode cX9_behind 0 = .ok (.aload_n 0, 1) := by decide +kernel
theorem dX9_behind_1 : decode cX9_behind 1 = .ok (.iload_n 1, 1) := by decide +kernel
theorem dX9_behind_2 : decode cX9_behind 2 = .ok (.invokevirtual 77, 3) := by decide +kernel
theorem dX9_behind_5 : decode cX9_behind 5 = .ok (.ifCond .ne 5, 3) := by decide +kernel
theorem dX9_behind_8 : decode cX9_behind 8 = .ok (.iconst (-1), 1) := by decide +kernel
theorem dX9_behind_9 : decode cX9_behind 9 = .ok (.ireturn, 1) := by decide +kernel
theorem dX9_behind_10 : decode cX9_behind 10 = .ok (.iload_n 2, 1) := by decide +kernel
theorem dX9_behind_11 : decode cX9_behind 11 = .ok (.iconst 0, 1) := by decide +kernel
theorem dX9_behind_12 : decode cX9_behind 12 = .ok (.iconst 2, 1) := by decide +kernel
theorem dX9_behind_13 : decode cX9_behind 13 = .ok (.invokestatic 48, 3) := by decide +kernel
theorem dX9_behind_16 : decode cX9_behind 16 = .ok (.ifCond .ne 6, 3) := by decide +kernel
theorem dX9_behind_19 : decode cX9_behind 19 = .ok (.bipush (-2), 2) := by decide +kernel
theorem dX9_behind_21 : decode cX9_behind 21 = .ok (.ireturn, 1) := by decide +kernel
theorem dX9_behind_22 : decode cX9_behind 22 = .ok (.aload_n 0, 1) := by decide +kernel
theorem dX9_behind_23 : decode cX9_behind 23 = .ok (.invokevirtual 124, 3) := by decide +kernel
theorem dX9_behind_26 : decode cX9_behind 26 = .ok (.ifCond .ge 6, 3) := by decide +kernel
theorem dX9_behind_29 : decode cX9_behind 29 = .ok (.bipush (-5), 2) := by decide +kernel
theorem dX9_behind_31 : decode cX9_behind 31 = .ok (.ireturn, 1) := by decide +kernel
theorem dX9_behind_32 : decode cX9_behind 32 = .ok (.iload_n 2, 1) := by decide +kernel
theorem dX9_behind_33 : decode cX9_behind 33 = .ok (.iconst 2, 1) := by decide +kernel
theorem dX9_behind_34 : decode cX9_behind 34 = .ok (.if_icmp .ne 17, 3) := by decide +kernel
theorem dX9_behind_37 : decode cX9_behind 37 = .ok (.aload_n 0, 1) := by decide +kernel
theorem dX9_behind_38 : decode cX9_behind 38 = .ok (.getfield 13, 3) := by decide +kernel
theorem dX9_behind_41 : decode cX9_behind 41 = .ok (.bipush 14, 2) := by decide +kernel
theorem dX9_behind_43 : decode cX9_behind 43 = .ok (.iaload, 1) := by decide +kernel
theorem dX9_behind_44 : decode cX9_behind 44 = .ok (.iload_n 1, 1) := by decide +kernel
theorem dX9_behind_45 : decode cX9_behind 45 = .ok (.ishr, 1) := by decide +kernel
theorem dX9_behind_46 : decode cX9_behind 46 = .ok (.iconst 1, 1) := by decide +kernel
theorem dX9_behind_47 : decode cX9_behind 47 = .ok (.iand, 1) := by decide +kernel
theorem dX9_behind_48 : decode cX9_behind 48 = .ok (.goto 14, 3) := by decide +kernel
theorem dX9_behind_51 : decode cX9_behind 51 = .ok (.aload_n 0, 1) := by decide +kernel
theorem dX9_behind_52 : decode cX9_behind 52 = .ok (.getfield 13, 3) := by decide +kernel
theorem dX9_behind_55 : decode cX9_behind 55 = .ok (.bipush 7, 2) := by decide +kernel
theorem dX9_behind_57 : decode cX9_behind 57 = .ok (.iload_n 2, 1) := by decide +kernel
theorem dX9_behind_58 : decode cX9_behind 58 = .ok (.imul, 1) := by decide +kernel
theorem dX9_behind_59 : decode cX9_behind 59 = .ok (.iload_n 1, 1) := by decide +kernel
theorem dX9_behind_60 : decode cX9_behind 60 = .ok (.iadd, 1) := by decide +kernel
theorem dX9_behind_61 : decode cX9_behind 61 = .ok (.iaload, 1) := by decide +kernel
theorem dX9_behind_62 : decode cX9_behind 62 = .ok (.ireturn, 1) := by decide +kernel
set_option maxRecDepth 20000 in
theorem ggX9_mostTired_X9_isThere : GoodIn wsX9_mostTired wsX9_isThere := goodIn_r _ [6, 7, 8, 9, 5, 10, 11, 12, 13, 14, 15, 16, 17, 18, 19, 20, 21, 22, 23, 24, 25, 26, 27, 28, 29, 30, 31, 32] (by decide +kernel) (by decide +kernel)
set_option maxRecDepth 20000 in
theorem gX9_mostTired_X9_isThere : GoodIn wsX9_mostTired (wsV RX9 77 RX9 yX9_isThere wsX9_isThere) := goodIn_app (goodIn_of _ (by decide +kernel)) ggX9_mostTired_X9_isThere
theorem dX9_mostTired_0 : decode cX9_mostTired 0 = .ok (.bipush (-6), 2) := by decide +kernel
theorem dX9_mostTired_2 : decode cX9_mostTired 2 = .ok (.istore_n 1, 1) := by decide +kernel
theorem dX9_mostTired_3 : decode cX9_mostTired 3 = .ok (.bipush 6, 2) := by decide +kernel
theorem dX9_mostTired_5 : decode cX9_mostTired 5 = .ok (.istore_n 2, 1) := by decide +kernel
theorem dX9_mostTired_6 : decode cX9_mostTired 6 = .ok (.iload_n 2, 1) := by decide +kernel
theorem dX9_mostTired_7 : decode cX9_mostTired 7 = .ok (.ifCond .lt 48, 3) := by decide +kernel
theorem dX9_mostTired_10 : decode cX9_mostTired 10 = .ok (.aload_n 0, 1) := by decide +kernel
theorem dX9_mostTired_11 : decode cX9_mostTired 11 = .ok (.iload_n 2, 1) := by decide +kernel
theorem dX9_mostTired_12 : decode cX9_mostTired 12 = .ok (.invokevirtual 77, 3) := by decide +kernel
theorem dX9_mostTired_15 : decode cX9_mostTired 15 = .ok (.ifCond .eq 32, 3) := by decide +kernel
theorem dX9_mostTired_18 : decode cX9_mostTired 18 = .ok (.iload_n 1, 1) := by decide +kernel
theorem dX9_mostTired_19 : decode cX9_mostTired 19 = .ok (.ifCond .lt 24, 3) := by decide +kernel
theorem dX9_mostTired_22 : decode cX9_mostTired 22 = .ok (.aload_n 0, 1) := by decide +kernel
theorem dX9_mostTired_23 : decode cX9_mostTired 23 = .ok (.getfield 13, 3) := by decide +kernel
theorem dX9_mostTired_26 : decode cX9_mostTired 26 = .ok (.bipush 7, 2) := by decide +kernel
theorem dX9_mostTired_28 : decode cX9_mostTired 28 = .ok (.iload_n 2, 1) := by decide +kernel
theorem dX9_mostTired_29 : decode cX9_mostTired 29 = .ok (.iadd, 1) := by decide +kernel
theorem dX9_mostTired_30 : decode cX9_mostTired 30 = .ok (.iaload, 1) := by decide +kernel
theorem dX9_mostTired_31 : decode cX9_mostTired 31 = .ok (.aload_n 0, 1) := by decide +kernel
theorem dX9_mostTired_32 : decode cX9_mostTired 32 = .ok (.getfield 13, 3) := by decide +kernel
theorem dX9_mostTired_35 : decode cX9_mostTired 35 = .ok (.bipush 7, 2) := by decide +kernel
theorem dX9_mostTired_37 : decode cX9_mostTired 37 = .ok (.iload_n 1, 1) := by decide +kernel
theorem dX9_mostTired_38 : decode cX9_mostTired 38 = .ok (.iadd, 1) := by decide +kernel
theorem dX9_mostTired_39 : decode cX9_mostTired 39 = .ok (.iaload, 1) := by decide +kernel
theorem dX9_mostTired_40 : decode cX9_mostTired 40 = .ok (.if_icmp .lt 7, 3) := by decide +kernel
theorem dX9_mostTired_43 : decode cX9_mostTired 43 = .ok (.iload_n 2, 1) := by decide +kernel
theorem dX9_mostTired_44 : decode cX9_mostTired 44 = .ok (.goto 4, 3) := by decide +kernel
theorem dX9_mostTired_47 : decode cX9_mostTired 47 = .ok (.iload_n 1, 1) := by decide +kernel
theorem dX9_mostTired_48 : decode cX9_mostTired 48 = .ok (.istore_n 1, 1) := by decide +kernel
theorem dX9_mostTired_49 : decode cX9_mostTired 49 = .ok (.iinc 2 (-1), 3) := by decide +kernel
theorem dX9_mostTired_52 : decode cX9_mostTired 52 = .ok (.goto (-46), 3) := by decide +kernel
theorem dX9_mostTired_55 : decode cX9_mostTired 55 = .ok (.iload_n 1, 1) := by decide +kernel
theorem dX9_mostTired_56 : decode cX9_mostTired 56 = .ok (.ireturn, 1) := by decide +kernel
set_option maxRecDepth 20000 in
theorem ggX9_then_X9_in : GoodIn wsX9_then wsX9_in := goodIn_r _ [7] (by decide +kernel) (by decide +kernel)
set_option maxRecDepth 20000 in
theorem gX9_then_X9_in : GoodIn wsX9_then (va_wsS RX9 48 yX9_in wsX9_in) := goodIn_app (goodIn_of _ (by decide +kernel)) ggX9_then_X9_in
set_option maxRecDepth 20000 in
theorem ggX9_then_X9_barOfWeeks : GoodIn wsX9_then wsX9_barOfWeeks := goodIn_r _ [11, 12, 13, 14, 6, 15, 16, 17, 4, 5, 7, 18, 19, 20, 21, 22, 1, 23, 2, 3, 24, 25, 26, 27, 28, 29, 30, 31, 32, 33, 34, 35, 36, 37, 38, 39, 40, 41, 42, 43, 44, 45, 46, 47, 48, 49, 50, 51, 52, 53, 54, 55, 56, 57, 58, 59, 60, 61, 62, 63, 64, 65, 66, 67, 68, 69, 70, 71, 72, 73, 74, 75, 76, 77, 78, 83, 84, 85, 86, 87, 88, 89, 90, 91, 92, 93, 94, 95, 96, 97, 98, 99, 100, 101] (by decide +kernel) (by decide +kernel)
set_option maxRecDepth 20000 in
theorem gX9_then_X9_barOfWeeks : GoodIn wsX9_then (wsV RX9 124 RX9 yX9_barOfWeeks wsX9_barOfWeeks) := goodIn_app (goodIn_of _ (by decide +kernel)) ggX9_then_X9_barOfWeeks
set_option maxRecDepth 20000 in
theorem ggX9_then_X9_mostTired : GoodIn wsX9_then wsX9_mostTired := goodIn_r _ [82, 1, 37, 38, 39, 6, 40, 41, 4, 5, 7, 42, 43, 44, 83, 84, 85, 86, 87, 88, 89, 90, 91, 92, 93, 94, 95, 96, 97, 98, 99, 100, 101] (by decide +kernel) (by decide +kernel)
set_option maxRecDepth 20000 in
theorem gX9_then_X9_mostTired : GoodIn wsX9_then (wsV RX9 127 RX9 yX9_mostTired wsX9_mostTired) := goodIn_app (goodIn_of _ (by decide +kernel)) ggX9_then_X9_mostTired
theorem dX9_then_0 : decode cX9_then 0 = .ok (.iload_n 1, 1) := by decide +kernel
theorem dX9_then_1 : decode cX9_then 1 = .ok (.iconst 0, 1) := by decide +kernel
theorem dX9_then_2 : decode cX9_then 2 = .ok (.bipush 6, 2) := by decide +kernel
theorem dX9_then_4 : decode cX9_then 4 = .ok (.invokestatic 48, 3) := by decide +kernel
theorem dX9_then_7 : decode cX9_then 7 = .ok (.ifCond .ne 6, 3) := by decide +kernel
theorem dX9_then_10 : decode cX9_then 10 = .ok (.bipush (-2), 2) := by decide +kernel
theorem dX9_then_12 : decode cX9_then 12 = .ok (.ireturn, 1) := by decide +kernel
theorem dX9_then_13 : decode cX9_then 13 = .ok (.aload_n 0, 1) := by decide +kernel
theorem dX9_then_14 : decode cX9_then 14 = .ok (.invokevirtual 124, 3) := by decide +kernel
theorem dX9_then_17 : decode cX9_then 17 = .ok (.ifCond .ge 6, 3) := by decide +kernel
theorem dX9_then_20 : decode cX9_then 20 = .ok (.bipush (-5), 2) := by decide +kernel
theorem dX9_then_22 : decode cX9_then 22 = .ok (.ireturn, 1) := by decide +kernel
theorem dX9_then_23 : decode cX9_then 23 = .ok (.iload_n 1, 1) := by decide +kernel
theorem dX9_then_24 : decode cX9_then 24 = .ok (.tableswitch 73 0 4 #[36, 44, 52, 60, 68], 36) := by decide +kernel
theorem dX9_then_60 : decode cX9_then 60 = .ok (.aload_n 0, 1) := by decide +kernel
theorem dX9_then_61 : decode cX9_then 61 = .ok (.getfield 13, 3) := by decide +kernel
theorem dX9_then_64 : decode cX9_then 64 = .ok (.bipush 15, 2) := by decide +kernel
theorem dX9_then_66 : decode cX9_then 66 = .ok (.iaload, 1) := by decide +kernel
theorem dX9_then_67 : decode cX9_then 67 = .ok (.ireturn, 1) := by decide +kernel
theorem dX9_then_68 : decode cX9_then 68 = .ok (.aload_n 0, 1) := by decide +kernel
theorem dX9_then_69 : decode cX9_then 69 = .ok (.getfield 13, 3) := by decide +kernel
theorem dX9_then_72 : decode cX9_then 72 = .ok (.bipush 17, 2) := by decide +kernel
theorem dX9_then_74 : decode cX9_then 74 = .ok (.iaload, 1) := by decide +kernel
theorem dX9_then_75 : decode cX9_then 75 = .ok (.ireturn, 1) := by decide +kernel
theorem dX9_then_76 : decode cX9_then 76 = .ok (.aload_n 0, 1) := by decide +kernel
theorem dX9_then_77 : decode cX9_then 77 = .ok (.getfield 13, 3) := by decide +kernel
theorem dX9_then_80 : decode cX9_then 80 = .ok (.bipush 16, 2) := by decide +kernel
theorem dX9_then_82 : decode cX9_then 82 = .ok (.iaload, 1) := by decide +kernel
theorem dX9_then_83 : decode cX9_then 83 = .ok (.ireturn, 1) := by decide +kernel
theorem dX9_then_84 : decode cX9_then 84 = .ok (.aload_n 0, 1) := by decide +kernel
theorem dX9_then_85 : decode cX9_then 85 = .ok (.getfield 13, 3) := by decide +kernel
theorem dX9_then_88 : decode cX9_then 88 = .ok (.bipush 18, 2) := by decide +kernel
theorem dX9_then_90 : decode cX9_then 90 = .ok (.iaload, 1) := by decide +kernel
theorem dX9_then_91 : decode cX9_then 91 = .ok (.ireturn, 1) := by decide +kernel
theorem dX9_then_92 : decode cX9_then 92 = .ok (.aload_n 0, 1) := by decide +kernel
theorem dX9_then_93 : decode cX9_then 93 = .ok (.invokevirtual 127, 3) := by decide +kernel
theorem dX9_then_96 : decode cX9_then 96 = .ok (.ireturn, 1) := by decide +kernel
theorem dX9_then_97 : decode cX9_then 97 = .ok (.iload_n 1, 1) := by decide +kernel
theorem dX9_then_98 : decode cX9_then 98 = .ok (.iconst 5, 1) := by decide +kernel
theorem dX9_then_99 : decode cX9_then 99 = .ok (.if_icmp .ne 10, 3) := by decide +kernel
theorem dX9_then_102 : decode cX9_then 102 = .ok (.aload_n 0, 1) := by decide +kernel
theorem dX9_then_103 : decode cX9_then 103 = .ok (.getfield 71, 3) := by decide +kernel
theorem dX9_then_106 : decode cX9_then 106 = .ok (.goto 7, 3) := by decide +kernel
theorem dX9_then_109 : decode cX9_then 109 = .ok (.aload_n 0, 1) := by decide +kernel
theorem dX9_then_110 : decode cX9_then 110 = .ok (.getfield 74, 3) := by decide +kernel
theorem dX9_then_113 : decode cX9_then 113 = .ok (.ireturn, 1) := by decide +kernel
set_option maxRecDepth 20000 in
theorem ggX9_agrees_X9_in : GoodIn wsX9_agrees wsX9_in := goodIn_r _ [4] (by decide +kernel) (by decide +kernel)
set_option maxRecDepth 20000 in
theorem gX9_agrees_X9_in : GoodIn wsX9_agrees (va_wsS RX9 48 yX9_in wsX9_in) := goodIn_app (goodIn_of _ (by decide +kernel)) ggX9_agrees_X9_in
set_option maxRecDepth 20000 in
theorem ggX9_agrees_X9_asNow : GoodIn wsX9_agrees wsX9_asNow := goodIn_r _ [8, 9, 10, 11, 12, 28, 29, 30, 31, 32, 33, 34, 35, 36, 37, 38, 39, 40, 41, 42, 43, 44, 45, 46] (by decide +kernel) (by decide +kernel)
set_option maxRecDepth 20000 in
theorem gX9_agrees_X9_asNow : GoodIn wsX9_agrees (wsV RX9 94 RX9 yX9_asNow wsX9_asNow) := goodIn_app (goodIn_of _ (by decide +kernel)) ggX9_agrees_X9_asNow
set_option maxRecDepth 20000 in
theorem ggX9_agrees_X9_agreeing : GoodIn wsX9_agrees wsX9_agreeing := goodIn_r _ [16, 9, 17, 18, 19, 3, 20, 21, 1, 2, 4, 22, 23, 24, 25, 26, 27, 28, 29, 30, 31, 32, 33, 34, 35, 36, 37, 38, 39, 40, 41, 42, 43, 44, 45, 46] (by decide +kernel) (by decide +kernel)
set_option maxRecDepth 20000 in
theorem gX9_agrees_X9_agreeing : GoodIn wsX9_agrees (wsV RX9 85 RX9 yX9_agreeing wsX9_agreeing) := goodIn_app (goodIn_of _ (by decide +kernel)) ggX9_agrees_X9_agreeing
theorem dX9_agrees_0 : decode cX9_agrees 0 = .ok (.iload_n 1, 1) := by decide +kernel
theorem dX9_agrees_1 : decode cX9_agrees 1 = .ok (.iconst 0, 1) := by decide +kernel
theorem dX9_agrees_2 : decode cX9_agrees 2 = .ok (.bipush 7, 2) := by decide +kernel
theorem dX9_agrees_4 : decode cX9_agrees 4 = .ok (.invokestatic 48, 3) := by decide +kernel
theorem dX9_agrees_7 : decode cX9_agrees 7 = .ok (.ifCond .ne 5, 3) := by decide +kernel
theorem dX9_agrees_10 : decode cX9_agrees 10 = .ok (.iconst (-1), 1) := by decide +kernel
theorem dX9_agrees_11 : decode cX9_agrees 11 = .ok (.ireturn, 1) := by decide +kernel
theorem dX9_agrees_12 : decode cX9_agrees 12 = .ok (.aload_n 0, 1) := by decide +kernel
theorem dX9_agrees_13 : decode cX9_agrees 13 = .ok (.invokevirtual 94, 3) := by decide +kernel
theorem dX9_agrees_16 : decode cX9_agrees 16 = .ok (.aload_n 0, 1) := by decide +kernel
theorem dX9_agrees_17 : decode cX9_agrees 17 = .ok (.iload_n 1, 1) := by decide +kernel
theorem dX9_agrees_18 : decode cX9_agrees 18 = .ok (.invokevirtual 85, 3) := by decide +kernel
theorem dX9_agrees_21 : decode cX9_agrees 21 = .ok (.ireturn, 1) := by decide +kernel
set_option maxRecDepth 20000 in
theorem ggX9_soon_X9_in : GoodIn wsX9_soon wsX9_in := goodIn_r _ [5] (by decide +kernel) (by decide +kernel)
set_option maxRecDepth 20000 in
theorem gX9_soon_X9_in : GoodIn wsX9_soon (va_wsS RX9 48 yX9_in wsX9_in) := goodIn_app (goodIn_of _ (by decide +kernel)) ggX9_soon_X9_in
set_option maxRecDepth 20000 in
theorem ggX9_soon_X9_asNow : GoodIn wsX9_soon wsX9_asNow := goodIn_r _ [9, 1, 10, 11, 12, 39, 40, 41, 42, 43, 44, 45, 46, 47, 48, 49, 50, 51, 52, 53, 54, 55, 56, 57] (by decide +kernel) (by decide +kernel)
set_option maxRecDepth 20000 in
theorem gX9_soon_X9_asNow : GoodIn wsX9_soon (wsV RX9 94 RX9 yX9_asNow wsX9_asNow) := goodIn_app (goodIn_of _ (by decide +kernel)) ggX9_soon_X9_asNow
set_option maxRecDepth 20000 in
theorem ggX9_soon_X9_isCarried : GoodIn wsX9_soon wsX9_isCarried := goodIn_r _ [16, 17, 18, 19, 20, 4, 21, 1, 22, 23, 24, 25, 2, 3, 5, 26, 27, 28, 29, 30, 31, 32, 33, 34, 39, 40, 41, 42, 43, 44, 45, 46, 47, 48, 49, 50, 51, 52, 53, 54, 55, 56, 57] (by decide +kernel) (by decide +kernel)
set_option maxRecDepth 20000 in
theorem gX9_soon_X9_isCarried : GoodIn wsX9_soon (wsV RX9 88 RX9 yX9_isCarried wsX9_isCarried) := goodIn_app (goodIn_of _ (by decide +kernel)) ggX9_soon_X9_isCarried
set_option maxRecDepth 20000 in
theorem ggX9_soon_X9_turnAll : GoodIn wsX9_soon wsX9_turnAll := goodIn_r _ [38, 1, 22, 23, 24, 4, 25, 17, 2, 3, 5, 26, 27, 28, 39, 40, 41, 42, 43, 44, 45, 46, 47, 48, 49, 50, 51, 52, 53, 54, 55, 56, 57] (by decide +kernel) (by decide +kernel)
set_option maxRecDepth 20000 in
theorem gX9_soon_X9_turnAll : GoodIn wsX9_soon (wsV RX9 91 RX9 yX9_turnAll wsX9_turnAll) := goodIn_app (goodIn_of _ (by decide +kernel)) ggX9_soon_X9_turnAll
theorem dX9_soon_0 : decode cX9_soon 0 = .ok (.iload_n 1, 1) := by decide +kernel
theorem dX9_soon_1 : decode cX9_soon 1 = .ok (.iconst 0, 1) := by decide +kernel
theorem dX9_soon_2 : decode cX9_soon 2 = .ok (.bipush 7, 2) := by decide +kernel
theorem dX9_soon_4 : decode cX9_soon 4 = .ok (.invokestatic 48, 3) := by decide +kernel
theorem dX9_soon_7 : decode cX9_soon 7 = .ok (.ifCond .ne 5, 3) := by decide +kernel
theorem dX9_soon_10 : decode cX9_soon 10 = .ok (.iconst (-1), 1) := by decide +kernel
theorem dX9_soon_11 : decode cX9_soon 11 = .ok (.ireturn, 1) := by decide +kernel
theorem dX9_soon_12 : decode cX9_soon 12 = .ok (.iload_n 2, 1) := by decide +kernel
theorem dX9_soon_13 : decode cX9_soon 13 = .ok (.iconst 0, 1) := by decide +kernel
theorem dX9_soon_14 : decode cX9_soon 14 = .ok (.bipush 7, 2) := by decide +kernel
theorem dX9_soon_16 : decode cX9_soon 16 = .ok (.invokestatic 48, 3) := by decide +kernel
theorem dX9_soon_19 : decode cX9_soon 19 = .ok (.ifCond .ne 6, 3) := by decide +kernel
theorem dX9_soon_22 : decode cX9_soon 22 = .ok (.bipush (-2), 2) := by decide +kernel
theorem dX9_soon_24 : decode cX9_soon 24 = .ok (.ireturn, 1) := by decide +kernel
theorem dX9_soon_25 : decode cX9_soon 25 = .ok (.aload_n 0, 1) := by decide +kernel
theorem dX9_soon_26 : decode cX9_soon 26 = .ok (.invokevirtual 94, 3) := by decide +kernel
theorem dX9_soon_29 : decode cX9_soon 29 = .ok (.aload_n 0, 1) := by decide +kernel
theorem dX9_soon_30 : decode cX9_soon 30 = .ok (.getfield 13, 3) := by decide +kernel
theorem dX9_soon_33 : decode cX9_soon 33 = .ok (.bipush 16, 2) := by decide +kernel
theorem dX9_soon_35 : decode cX9_soon 35 = .ok (.iload_n 2, 1) := by decide +kernel
theorem dX9_soon_36 : decode cX9_soon 36 = .ok (.iastore, 1) := by decide +kernel
theorem dX9_soon_37 : decode cX9_soon 37 = .ok (.iconst 0, 1) := by decide +kernel
theorem dX9_soon_38 : decode cX9_soon 38 = .ok (.istore_n 3, 1) := by decide +kernel
theorem dX9_soon_39 : decode cX9_soon 39 = .ok (.iload_n 3, 1) := by decide +kernel
theorem dX9_soon_40 : decode cX9_soon 40 = .ok (.bipush 9, 2) := by decide +kernel
theorem dX9_soon_42 : decode cX9_soon 42 = .ok (.if_icmp .ge 23, 3) := by decide +kernel
theorem dX9_soon_45 : decode cX9_soon 45 = .ok (.aload_n 0, 1) := by decide +kernel
theorem dX9_soon_46 : decode cX9_soon 46 = .ok (.iload_n 1, 1) := by decide +kernel
theorem dX9_soon_47 : decode cX9_soon 47 = .ok (.invokevirtual 88, 3) := by decide +kernel
theorem dX9_soon_50 : decode cX9_soon 50 = .ok (.ifCond .eq 5, 3) := by decide +kernel
theorem dX9_soon_53 : decode cX9_soon 53 = .ok (.iload_n 3, 1) := by decide +kernel
theorem dX9_soon_54 : decode cX9_soon 54 = .ok (.ireturn, 1) := by decide +kernel
theorem dX9_soon_55 : decode cX9_soon 55 = .ok (.aload_n 0, 1) := by decide +kernel
theorem dX9_soon_56 : decode cX9_soon 56 = .ok (.invokevirtual 91, 3) := by decide +kernel
theorem dX9_soon_59 : decode cX9_soon 59 = .ok (.iinc 3 1, 3) := by decide +kernel
theorem dX9_soon_62 : decode cX9_soon 62 = .ok (.goto (-23), 3) := by decide +kernel
theorem dX9_soon_65 : decode cX9_soon 65 = .ok (.bipush (-6), 2) := by decide +kernel
theorem dX9_soon_67 : decode cX9_soon 67 = .ok (.ireturn, 1) := by decide +kernel
set_option maxRecDepth 20000 in
theorem ggX9_winnerOf_X9_apartOf : GoodIn wsX9_winnerOf wsX9_apartOf := goodIn_r _ [5] (by decide +kernel) (by decide +kernel)
set_option maxRecDepth 20000 in
theorem gX9_winnerOf_X9_apartOf : GoodIn wsX9_winnerOf (va_wsS RX9 81 yX9_apartOf wsX9_apartOf) := goodIn_app (goodIn_of _ (by decide +kernel)) ggX9_winnerOf_X9_apartOf
set_option maxRecDepth 20000 in
theorem ggX9_winnerOf_X9_isThere : GoodIn wsX9_winnerOf wsX9_isThere := goodIn_r _ [9, 10, 11, 12, 4, 13, 14, 15, 16, 17, 18, 19, 20, 21, 22, 23, 24, 25, 26, 27, 28, 29, 30, 31, 32, 33, 34, 35] (by decide +kernel) (by decide +kernel)
set_option maxRecDepth 20000 in
theorem gX9_winnerOf_X9_isThere : GoodIn wsX9_winnerOf (wsV RX9 77 RX9 yX9_isThere wsX9_isThere) := goodIn_app (goodIn_of _ (by decide +kernel)) ggX9_winnerOf_X9_isThere
theorem dX9_winnerOf_0 : decode cX9_winnerOf 0 = .ok (.iconst 0, 1) := by decide +kernel
theorem dX9_winnerOf_1 : decode cX9_winnerOf 1 = .ok (.istore_n 3, 1) := by decide +kernel
theorem dX9_winnerOf_2 : decode cX9_winnerOf 2 = .ok (.iconst 0, 1) := by decide +kernel
theorem dX9_winnerOf_3 : decode cX9_winnerOf 3 = .ok (.istore 4, 2) := by decide +kernel
theorem dX9_winnerOf_5 : decode cX9_winnerOf 5 = .ok (.iload 4, 2) := by decide +kernel
theorem dX9_winnerOf_7 : decode cX9_winnerOf 7 = .ok (.bipush 7, 2) := by decide +kernel
theorem dX9_winnerOf_9 : decode cX9_winnerOf 9 = .ok (.if_icmp .ge 65, 3) := by decide +kernel
theorem dX9_winnerOf_12 : decode cX9_winnerOf 12 = .ok (.aload_n 0, 1) := by decide +kernel
theorem dX9_winnerOf_13 : decode cX9_winnerOf 13 = .ok (.getfield 7, 3) := by decide +kernel
theorem dX9_winnerOf_16 : decode cX9_winnerOf 16 = .ok (.iload 4, 2) := by decide +kernel
theorem dX9_winnerOf_18 : decode cX9_winnerOf 18 = .ok (.iaload, 1) := by decide +kernel
theorem dX9_winnerOf_19 : decode cX9_winnerOf 19 = .ok (.iload_n 1, 1) := by decide +kernel
theorem dX9_winnerOf_20 : decode cX9_winnerOf 20 = .ok (.invokestatic 81, 3) := by decide +kernel
theorem dX9_winnerOf_23 : decode cX9_winnerOf 23 = .ok (.aload_n 0, 1) := by decide +kernel
theorem dX9_winnerOf_24 : decode cX9_winnerOf 24 = .ok (.getfield 7, 3) := by decide +kernel
theorem dX9_winnerOf_27 : decode cX9_winnerOf 27 = .ok (.iload 4, 2) := by decide +kernel
theorem dX9_winnerOf_29 : decode cX9_winnerOf 29 = .ok (.iaload, 1) := by decide +kernel
theorem dX9_winnerOf_30 : decode cX9_winnerOf 30 = .ok (.iload_n 2, 1) := by decide +kernel
theorem dX9_winnerOf_31 : decode cX9_winnerOf 31 = .ok (.invokestatic 81, 3) := by decide +kernel
theorem dX9_winnerOf_34 : decode cX9_winnerOf 34 = .ok (.isub, 1) := by decide +kernel
theorem dX9_winnerOf_35 : decode cX9_winnerOf 35 = .ok (.istore 5, 2) := by decide +kernel
theorem dX9_winnerOf_37 : decode cX9_winnerOf 37 = .ok (.iload_n 3, 1) := by decide +kernel
theorem dX9_winnerOf_38 : decode cX9_winnerOf 38 = .ok (.aload_n 0, 1) := by decide +kernel
theorem dX9_winnerOf_39 : decode cX9_winnerOf 39 = .ok (.iload 4, 2) := by decide +kernel
theorem dX9_winnerOf_41 : decode cX9_winnerOf 41 = .ok (.invokevirtual 77, 3) := by decide +kernel
theorem dX9_winnerOf_44 : decode cX9_winnerOf 44 = .ok (.ifCond .eq 8, 3) := by decide +kernel
theorem dX9_winnerOf_47 : decode cX9_winnerOf 47 = .ok (.iload 5, 2) := by decide +kernel
theorem dX9_winnerOf_49 : decode cX9_winnerOf 49 = .ok (.ifCond .ne 7, 3) := by decide +kernel
theorem dX9_winnerOf_52 : decode cX9_winnerOf 52 = .ok (.iconst 0, 1) := by decide +kernel
theorem dX9_winnerOf_53 : decode cX9_winnerOf 53 = .ok (.goto 13, 3) := by decide +kernel
theorem dX9_winnerOf_56 : decode cX9_winnerOf 56 = .ok (.iload 5, 2) := by decide +kernel
theorem dX9_winnerOf_58 : decode cX9_winnerOf 58 = .ok (.ifCond .ge 7, 3) := by decide +kernel
theorem dX9_winnerOf_61 : decode cX9_winnerOf 61 = .ok (.iconst 1, 1) := by decide +kernel
theorem dX9_winnerOf_62 : decode cX9_winnerOf 62 = .ok (.goto 4, 3) := by decide +kernel
theorem dX9_winnerOf_65 : decode cX9_winnerOf 65 = .ok (.iconst (-1), 1) := by decide +kernel
theorem dX9_winnerOf_66 : decode cX9_winnerOf 66 = .ok (.iadd, 1) := by decide +kernel
theorem dX9_winnerOf_67 : decode cX9_winnerOf 67 = .ok (.istore_n 3, 1) := by decide +kernel
theorem dX9_winnerOf_68 : decode cX9_winnerOf 68 = .ok (.iinc 4 1, 3) := by decide +kernel
theorem dX9_winnerOf_71 : decode cX9_winnerOf 71 = .ok (.goto (-66), 3) := by decide +kernel
theorem dX9_winnerOf_74 : decode cX9_winnerOf 74 = .ok (.iload_n 3, 1) := by decide +kernel
theorem dX9_winnerOf_75 : decode cX9_winnerOf 75 = .ok (.ifCond .le 7, 3) := by decide +kernel
theorem dX9_winnerOf_78 : decode cX9_winnerOf 78 = .ok (.iload_n 1, 1) := by decide +kernel
theorem dX9_winnerOf_79 : decode cX9_winnerOf 79 = .ok (.goto 21, 3) := by decide +kernel
theorem dX9_winnerOf_82 : decode cX9_winnerOf 82 = .ok (.iload_n 3, 1) := by decide +kernel
theorem dX9_winnerOf_83 : decode cX9_winnerOf 83 = .ok (.ifCond .ge 7, 3) := by decide +kernel
theorem dX9_winnerOf_86 : decode cX9_winnerOf 86 = .ok (.iload_n 2, 1) := by decide +kernel
theorem dX9_winnerOf_87 : decode cX9_winnerOf 87 = .ok (.goto 13, 3) := by decide +kernel
theorem dX9_winnerOf_90 : decode cX9_winnerOf 90 = .ok (.iload_n 1, 1) := by decide +kernel
theorem dX9_winnerOf_91 : decode cX9_winnerOf 91 = .ok (.iload_n 2, 1) := by decide +kernel
theorem dX9_winnerOf_92 : decode cX9_winnerOf 92 = .ok (.if_icmp .ge 7, 3) := by decide +kernel
theorem dX9_winnerOf_95 : decode cX9_winnerOf 95 = .ok (.iload_n 1, 1) := by decide +kernel
theorem dX9_winnerOf_96 : decode cX9_winnerOf 96 = .ok (.goto 4, 3) := by decide +kernel
theorem dX9_winnerOf_99 : decode cX9_winnerOf 99 = .ok (.iload_n 2, 1) := by decide +kernel
theorem dX9_winnerOf_100 : decode cX9_winnerOf 100 = .ok (.ireturn, 1) := by decide +kernel
set_option maxRecDepth 20000 in
theorem ggX9_agenda_X9_in : GoodIn wsX9_agenda wsX9_in := goodIn_r _ [4] (by decide +kernel) (by decide +kernel)
set_option maxRecDepth 20000 in
theorem gX9_agenda_X9_in : GoodIn wsX9_agenda (va_wsS RX9 48 yX9_in wsX9_in) := goodIn_app (goodIn_of _ (by decide +kernel)) ggX9_agenda_X9_in
set_option maxRecDepth 20000 in
theorem ggX9_agenda_X9_has : GoodIn wsX9_agenda wsX9_has := goodIn_r _ [7] (by decide +kernel) (by decide +kernel)
set_option maxRecDepth 20000 in
theorem gX9_agenda_X9_has : GoodIn wsX9_agenda (va_wsS RX9 56 yX9_has wsX9_has) := goodIn_app (goodIn_of _ (by decide +kernel)) ggX9_agenda_X9_has
set_option maxRecDepth 20000 in
theorem ggX9_agenda_X9_winnerOf : GoodIn wsX9_agenda wsX9_winnerOf := goodIn_r _ [11, 12, 13, 14, 3, 15, 16, 17, 18, 19, 20, 1, 2, 4, 5, 6, 7, 21, 22, 23, 24, 25, 26, 27, 28, 29, 30, 31, 32, 33, 34, 35, 36, 37, 38, 39] (by decide +kernel) (by decide +kernel)
set_option maxRecDepth 20000 in
theorem gX9_agenda_X9_winnerOf : GoodIn wsX9_agenda (wsV RX9 130 RX9 yX9_winnerOf wsX9_winnerOf) := goodIn_app (goodIn_of _ (by decide +kernel)) ggX9_agenda_X9_winnerOf
theorem dX9_agenda_0 : decode cX9_agenda 0 = .ok (.iload_n 2, 1) := by decide +kernel
theorem dX9_agenda_1 : decode cX9_agenda 1 = .ok (.iconst 2, 1) := by decide +kernel
theorem dX9_agenda_2 : decode cX9_agenda 2 = .ok (.bipush 8, 2) := by decide +kernel
theorem dX9_agenda_4 : decode cX9_agenda 4 = .ok (.invokestatic 48, 3) := by decide +kernel
theorem dX9_agenda_7 : decode cX9_agenda 7 = .ok (.ifCond .eq 7, 3) := by decide +kernel
theorem dX9_agenda_10 : decode cX9_agenda 10 = .ok (.iload_n 1, 1) := by decide +kernel
theorem dX9_agenda_11 : decode cX9_agenda 11 = .ok (.ifCond .ge 6, 3) := by decide +kernel
theorem dX9_agenda_14 : decode cX9_agenda 14 = .ok (.bipush (-2), 2) := by decide +kernel
theorem dX9_agenda_16 : decode cX9_agenda 16 = .ok (.ireturn, 1) := by decide +kernel
theorem dX9_agenda_17 : decode cX9_agenda 17 = .ok (.iload_n 1, 1) := by decide +kernel
theorem dX9_agenda_18 : decode cX9_agenda 18 = .ok (.istore_n 3, 1) := by decide +kernel
theorem dX9_agenda_19 : decode cX9_agenda 19 = .ok (.iconst 1, 1) := by decide +kernel
theorem dX9_agenda_20 : decode cX9_agenda 20 = .ok (.istore 4, 2) := by decide +kernel
theorem dX9_agenda_22 : decode cX9_agenda 22 = .ok (.iconst 0, 1) := by decide +kernel
theorem dX9_agenda_23 : decode cX9_agenda 23 = .ok (.istore 5, 2) := by decide +kernel
theorem dX9_agenda_25 : decode cX9_agenda 25 = .ok (.iconst 0, 1) := by decide +kernel
theorem dX9_agenda_26 : decode cX9_agenda 26 = .ok (.istore 6, 2) := by decide +kernel
theorem dX9_agenda_28 : decode cX9_agenda 28 = .ok (.iload 6, 2) := by decide +kernel
theorem dX9_agenda_30 : decode cX9_agenda 30 = .ok (.iload_n 2, 1) := by decide +kernel
theorem dX9_agenda_31 : decode cX9_agenda 31 = .ok (.if_icmp .ge 65, 3) := by decide +kernel
theorem dX9_agenda_34 : decode cX9_agenda 34 = .ok (.iload_n 3, 1) := by decide +kernel
theorem dX9_agenda_35 : decode cX9_agenda 35 = .ok (.bipush 10, 2) := by decide +kernel
theorem dX9_agenda_37 : decode cX9_agenda 37 = .ok (.irem, 1) := by decide +kernel
theorem dX9_agenda_38 : decode cX9_agenda 38 = .ok (.istore 7, 2) := by decide +kernel
theorem dX9_agenda_40 : decode cX9_agenda 40 = .ok (.iload 7, 2) := by decide +kernel
theorem dX9_agenda_42 : decode cX9_agenda 42 = .ok (.bipush 7, 2) := by decide +kernel
theorem dX9_agenda_44 : decode cX9_agenda 44 = .ok (.if_icmp .gt 13, 3) := by decide +kernel
theorem dX9_agenda_47 : decode cX9_agenda 47 = .ok (.iload 5, 2) := by decide +kernel
theorem dX9_agenda_49 : decode cX9_agenda 49 = .ok (.iload 7, 2) := by decide +kernel
theorem dX9_agenda_51 : decode cX9_agenda 51 = .ok (.invokestatic 56, 3) := by decide +kernel
theorem dX9_agenda_54 : decode cX9_agenda 54 = .ok (.ifCond .eq 6, 3) := by decide +kernel
theorem dX9_agenda_57 : decode cX9_agenda 57 = .ok (.bipush (-2), 2) := by decide +kernel
theorem dX9_agenda_59 : decode cX9_agenda 59 = .ok (.ireturn, 1) := by decide +kernel
theorem dX9_agenda_60 : decode cX9_agenda 60 = .ok (.iload 5, 2) := by decide +kernel
theorem dX9_agenda_62 : decode cX9_agenda 62 = .ok (.iconst 1, 1) := by decide +kernel
theorem dX9_agenda_63 : decode cX9_agenda 63 = .ok (.iload 7, 2) := by decide +kernel
theorem dX9_agenda_65 : decode cX9_agenda 65 = .ok (.ishl, 1) := by decide +kernel
theorem dX9_agenda_66 : decode cX9_agenda 66 = .ok (.ior, 1) := by decide +kernel
theorem dX9_agenda_67 : decode cX9_agenda 67 = .ok (.istore 5, 2) := by decide +kernel
theorem dX9_agenda_69 : decode cX9_agenda 69 = .ok (.iload_n 3, 1) := by decide +kernel
theorem dX9_agenda_70 : decode cX9_agenda 70 = .ok (.bipush 10, 2) := by decide +kernel
theorem dX9_agenda_72 : decode cX9_agenda 72 = .ok (.idiv, 1) := by decide +kernel
theorem dX9_agenda_73 : decode cX9_agenda 73 = .ok (.istore_n 3, 1) := by decide +kernel
theorem dX9_agenda_74 : decode cX9_agenda 74 = .ok (.iload 4, 2) := by decide +kernel
theorem dX9_agenda_76 : decode cX9_agenda 76 = .ok (.iload 6, 2) := by decide +kernel
theorem dX9_agenda_78 : decode cX9_agenda 78 = .ok (.ifCond .le 8, 3) := by decide +kernel
theorem dX9_agenda_81 : decode cX9_agenda 81 = .ok (.bipush 10, 2) := by decide +kernel
theorem dX9_agenda_83 : decode cX9_agenda 83 = .ok (.goto 4, 3) := by decide +kernel
theorem dX9_agenda_86 : decode cX9_agenda 86 = .ok (.iconst 1, 1) := by decide +kernel
theorem dX9_agenda_87 : decode cX9_agenda 87 = .ok (.imul, 1) := by decide +kernel
theorem dX9_agenda_88 : decode cX9_agenda 88 = .ok (.istore 4, 2) := by decide +kernel
theorem dX9_agenda_90 : decode cX9_agenda 90 = .ok (.iinc 6 1, 3) := by decide +kernel
theorem dX9_agenda_93 : decode cX9_agenda 93 = .ok (.goto (-65), 3) := by decide +kernel
theorem dX9_agenda_96 : decode cX9_agenda 96 = .ok (.iload_n 3, 1) := by decide +kernel
theorem dX9_agenda_97 : decode cX9_agenda 97 = .ok (.ifCond .eq 6, 3) := by decide +kernel
theorem dX9_agenda_100 : decode cX9_agenda 100 = .ok (.bipush (-2), 2) := by decide +kernel
theorem dX9_agenda_102 : decode cX9_agenda 102 = .ok (.ireturn, 1) := by decide +kernel
theorem dX9_agenda_103 : decode cX9_agenda 103 = .ok (.iload_n 1, 1) := by decide +kernel
theorem dX9_agenda_104 : decode cX9_agenda 104 = .ok (.iload 4, 2) := by decide +kernel
theorem dX9_agenda_106 : decode cX9_agenda 106 = .ok (.idiv, 1) := by decide +kernel
theorem dX9_agenda_107 : decode cX9_agenda 107 = .ok (.istore 6, 2) := by decide +kernel
theorem dX9_agenda_109 : decode cX9_agenda 109 = .ok (.iconst 1, 1) := by decide +kernel
theorem dX9_agenda_110 : decode cX9_agenda 110 = .ok (.istore 7, 2) := by decide +kernel
theorem dX9_agenda_112 : decode cX9_agenda 112 = .ok (.iload 7, 2) := by decide +kernel
theorem dX9_agenda_114 : decode cX9_agenda 114 = .ok (.iload_n 2, 1) := by decide +kernel
theorem dX9_agenda_115 : decode cX9_agenda 115 = .ok (.if_icmp .ge 31, 3) := by decide +kernel
theorem dX9_agenda_118 : decode cX9_agenda 118 = .ok (.iload 4, 2) := by decide +kernel
theorem dX9_agenda_120 : decode cX9_agenda 120 = .ok (.bipush 10, 2) := by decide +kernel
theorem dX9_agenda_122 : decode cX9_agenda 122 = .ok (.idiv, 1) := by decide +kernel
theorem dX9_agenda_123 : decode cX9_agenda 123 = .ok (.istore 4, 2) := by decide +kernel
theorem dX9_agenda_125 : decode cX9_agenda 125 = .ok (.aload_n 0, 1) := by decide +kernel
theorem dX9_agenda_126 : decode cX9_agenda 126 = .ok (.iload 6, 2) := by decide +kernel
theorem dX9_agenda_128 : decode cX9_agenda 128 = .ok (.iload_n 1, 1) := by decide +kernel
theorem dX9_agenda_129 : decode cX9_agenda 129 = .ok (.iload 4, 2) := by decide +kernel
theorem dX9_agenda_131 : decode cX9_agenda 131 = .ok (.idiv, 1) := by decide +kernel
theorem dX9_agenda_132 : decode cX9_agenda 132 = .ok (.bipush 10, 2) := by decide +kernel
theorem dX9_agenda_134 : decode cX9_agenda 134 = .ok (.irem, 1) := by decide +kernel
theorem dX9_agenda_135 : decode cX9_agenda 135 = .ok (.invokevirtual 130, 3) := by decide +kernel
theorem dX9_agenda_138 : decode cX9_agenda 138 = .ok (.istore 6, 2) := by decide +kernel
theorem dX9_agenda_140 : decode cX9_agenda 140 = .ok (.iinc 7 1, 3) := by decide +kernel
theorem dX9_agenda_143 : decode cX9_agenda 143 = .ok (.goto (-31), 3) := by decide +kernel
theorem dX9_agenda_146 : decode cX9_agenda 146 = .ok (.iload 6, 2) := by decide +kernel
theorem dX9_agenda_148 : decode cX9_agenda 148 = .ok (.ireturn, 1) := by decide +kernel
set_option maxRecDepth 20000 in
theorem ggX9_can_X9_in : GoodIn wsX9_can wsX9_in := goodIn_r _ [5] (by decide +kernel) (by decide +kernel)
set_option maxRecDepth 20000 in
theorem gX9_can_X9_in : GoodIn wsX9_can (va_wsS RX9 48 yX9_in wsX9_in) := goodIn_app (goodIn_of _ (by decide +kernel)) ggX9_can_X9_in
set_option maxRecDepth 20000 in
theorem ggX9_can_X9_winnerOf : GoodIn wsX9_can wsX9_winnerOf := goodIn_r _ [9, 10, 11, 12, 4, 13, 14, 15, 16, 17, 18, 2, 3, 5, 19, 20, 21, 25, 26, 27, 28, 29, 30, 31, 32, 33, 34, 35, 36, 37, 38, 39, 40, 41, 42, 43] (by decide +kernel) (by decide +kernel)
set_option maxRecDepth 20000 in
theorem gX9_can_X9_winnerOf : GoodIn wsX9_can (wsV RX9 130 RX9 yX9_winnerOf wsX9_winnerOf) := goodIn_app (goodIn_of _ (by decide +kernel)) ggX9_can_X9_winnerOf
set_option maxRecDepth 20000 in
theorem ggX9_can_X9_bits : GoodIn wsX9_can wsX9_bits := goodIn_r _ [24] (by decide +kernel) (by decide +kernel)
set_option maxRecDepth 20000 in
theorem gX9_can_X9_bits : GoodIn wsX9_can (va_wsS RX9 60 yX9_bits wsX9_bits) := goodIn_app (goodIn_of _ (by decide +kernel)) ggX9_can_X9_bits
set_option maxRecDepth 20000 in
theorem ggX9_can_X9_has : GoodIn wsX9_can wsX9_has := goodIn_r _ [21] (by decide +kernel) (by decide +kernel)
set_option maxRecDepth 20000 in
theorem gX9_can_X9_has : GoodIn wsX9_can (va_wsS RX9 56 yX9_has wsX9_has) := goodIn_app (goodIn_of _ (by decide +kernel)) ggX9_can_X9_has
theorem dX9_can_0 : decode cX9_can 0 = .ok (.iload_n 1, 1) := by decide +kernel
theorem dX9_can_1 : decode cX9_can 1 = .ok (.iconst 0, 1) := by decide +kernel
theorem dX9_can_2 : decode cX9_can 2 = .ok (.bipush 7, 2) := by decide +kernel
theorem dX9_can_4 : decode cX9_can 4 = .ok (.invokestatic 48, 3) := by decide +kernel
theorem dX9_can_7 : decode cX9_can 7 = .ok (.ifCond .ne 5, 3) := by decide +kernel
theorem dX9_can_10 : decode cX9_can 10 = .ok (.iconst (-1), 1) := by decide +kernel
theorem dX9_can_11 : decode cX9_can 11 = .ok (.ireturn, 1) := by decide +kernel
theorem dX9_can_12 : decode cX9_can 12 = .ok (.iload_n 2, 1) := by decide +kernel
theorem dX9_can_13 : decode cX9_can 13 = .ok (.iconst 0, 1) := by decide +kernel
theorem dX9_can_14 : decode cX9_can 14 = .ok (.iconst 1, 1) := by decide +kernel
theorem dX9_can_15 : decode cX9_can 15 = .ok (.invokestatic 48, 3) := by decide +kernel
theorem dX9_can_18 : decode cX9_can 18 = .ok (.ifCond .ne 6, 3) := by decide +kernel
theorem dX9_can_21 : decode cX9_can 21 = .ok (.bipush (-2), 2) := by decide +kernel
theorem dX9_can_23 : decode cX9_can 23 = .ok (.ireturn, 1) := by decide +kernel
theorem dX9_can_24 : decode cX9_can 24 = .ok (.iload_n 2, 1) := by decide +kernel
theorem dX9_can_25 : decode cX9_can 25 = .ok (.iconst 1, 1) := by decide +kernel
theorem dX9_can_26 : decode cX9_can 26 = .ok (.if_icmp .ne 48, 3) := by decide +kernel
theorem dX9_can_29 : decode cX9_can 29 = .ok (.iconst 0, 1) := by decide +kernel
theorem dX9_can_30 : decode cX9_can 30 = .ok (.istore_n 3, 1) := by decide +kernel
theorem dX9_can_31 : decode cX9_can 31 = .ok (.iconst 0, 1) := by decide +kernel
theorem dX9_can_32 : decode cX9_can 32 = .ok (.istore 4, 2) := by decide +kernel
theorem dX9_can_34 : decode cX9_can 34 = .ok (.iload 4, 2) := by decide +kernel
theorem dX9_can_36 : decode cX9_can 36 = .ok (.bipush 8, 2) := by decide +kernel
theorem dX9_can_38 : decode cX9_can 38 = .ok (.if_icmp .ge 34, 3) := by decide +kernel
theorem dX9_can_41 : decode cX9_can 41 = .ok (.iload_n 3, 1) := by decide +kernel
theorem dX9_can_42 : decode cX9_can 42 = .ok (.iload 4, 2) := by decide +kernel
theorem dX9_can_44 : decode cX9_can 44 = .ok (.iload_n 1, 1) := by decide +kernel
theorem dX9_can_45 : decode cX9_can 45 = .ok (.if_icmp .eq 18, 3) := by decide +kernel
theorem dX9_can_48 : decode cX9_can 48 = .ok (.aload_n 0, 1) := by decide +kernel
theorem dX9_can_49 : decode cX9_can 49 = .ok (.iload_n 1, 1) := by decide +kernel
theorem dX9_can_50 : decode cX9_can 50 = .ok (.iload 4, 2) := by decide +kernel
theorem dX9_can_52 : decode cX9_can 52 = .ok (.invokevirtual 130, 3) := by decide +kernel
theorem dX9_can_55 : decode cX9_can 55 = .ok (.iload_n 1, 1) := by decide +kernel
theorem dX9_can_56 : decode cX9_can 56 = .ok (.if_icmp .ne 7, 3) := by decide +kernel
theorem dX9_can_59 : decode cX9_can 59 = .ok (.iconst 1, 1) := by decide +kernel
theorem dX9_can_60 : decode cX9_can 60 = .ok (.goto 4, 3) := by decide +kernel
theorem dX9_can_63 : decode cX9_can 63 = .ok (.iconst 0, 1) := by decide +kernel
theorem dX9_can_64 : decode cX9_can 64 = .ok (.iadd, 1) := by decide +kernel
theorem dX9_can_65 : decode cX9_can 65 = .ok (.istore_n 3, 1) := by decide +kernel
theorem dX9_can_66 : decode cX9_can 66 = .ok (.iinc 4 1, 3) := by decide +kernel
theorem dX9_can_69 : decode cX9_can 69 = .ok (.goto (-35), 3) := by decide +kernel
theorem dX9_can_72 : decode cX9_can 72 = .ok (.iload_n 3, 1) := by decide +kernel
theorem dX9_can_73 : decode cX9_can 73 = .ok (.ireturn, 1) := by decide +kernel
theorem dX9_can_74 : decode cX9_can 74 = .ok (.iconst 1, 1) := by decide +kernel
theorem dX9_can_75 : decode cX9_can 75 = .ok (.istore_n 3, 1) := by decide +kernel
theorem dX9_can_76 : decode cX9_can 76 = .ok (.iload_n 3, 1) := by decide +kernel
theorem dX9_can_77 : decode cX9_can 77 = .ok (.sipush 256, 3) := by decide +kernel
theorem dX9_can_80 : decode cX9_can 80 = .ok (.if_icmp .ge 127, 3) := by decide +kernel
theorem dX9_can_83 : decode cX9_can 83 = .ok (.aload_n 0, 1) := by decide +kernel
theorem dX9_can_84 : decode cX9_can 84 = .ok (.getfield 25, 3) := by decide +kernel
theorem dX9_can_87 : decode cX9_can 87 = .ok (.iload_n 3, 1) := by decide +kernel
theorem dX9_can_88 : decode cX9_can 88 = .ok (.iload_n 3, 1) := by decide +kernel
theorem dX9_can_89 : decode cX9_can 89 = .ok (.invokestatic 60, 3) := by decide +kernel
theorem dX9_can_92 : decode cX9_can 92 = .ok (.iconst 1, 1) := by decide +kernel
theorem dX9_can_93 : decode cX9_can 93 = .ok (.if_icmp .ne 7, 3) := by decide +kernel
theorem dX9_can_96 : decode cX9_can 96 = .ok (.iload_n 3, 1) := by decide +kernel
theorem dX9_can_97 : decode cX9_can 97 = .ok (.goto 4, 3) := by decide +kernel
theorem dX9_can_100 : decode cX9_can 100 = .ok (.iconst 0, 1) := by decide +kernel
theorem dX9_can_101 : decode cX9_can 101 = .ok (.iastore, 1) := by decide +kernel
theorem dX9_can_102 : decode cX9_can 102 = .ok (.iconst 0, 1) := by decide +kernel
theorem dX9_can_103 : decode cX9_can 103 = .ok (.istore 4, 2) := by decide +kernel
theorem dX9_can_105 : decode cX9_can 105 = .ok (.iload 4, 2) := by decide +kernel
theorem dX9_can_107 : decode cX9_can 107 = .ok (.bipush 8, 2) := by decide +kernel
theorem dX9_can_109 : decode cX9_can 109 = .ok (.if_icmp .ge 92, 3) := by decide +kernel
theorem dX9_can_112 : decode cX9_can 112 = .ok (.iload_n 3, 1) := by decide +kernel
theorem dX9_can_113 : decode cX9_can 113 = .ok (.iconst 1, 1) := by decide +kernel
theorem dX9_can_114 : decode cX9_can 114 = .ok (.iload 4, 2) := by decide +kernel
theorem dX9_can_116 : decode cX9_can 116 = .ok (.ishl, 1) := by decide +kernel
theorem dX9_can_117 : decode cX9_can 117 = .ok (.iconst (-1), 1) := by decide +kernel
theorem dX9_can_118 : decode cX9_can 118 = .ok (.ixor, 1) := by decide +kernel
theorem dX9_can_119 : decode cX9_can 119 = .ok (.iand, 1) := by decide +kernel
theorem dX9_can_120 : decode cX9_can 120 = .ok (.istore 5, 2) := by decide +kernel
theorem dX9_can_122 : decode cX9_can 122 = .ok (.iconst 0, 1) := by decide +kernel
theorem dX9_can_123 : decode cX9_can 123 = .ok (.istore 6, 2) := by decide +kernel
theorem dX9_can_125 : decode cX9_can 125 = .ok (.iload 6, 2) := by decide +kernel
theorem dX9_can_127 : decode cX9_can 127 = .ok (.bipush 8, 2) := by decide +kernel
theorem dX9_can_129 : decode cX9_can 129 = .ok (.if_icmp .ge 66, 3) := by decide +kernel
theorem dX9_can_132 : decode cX9_can 132 = .ok (.iload_n 3, 1) := by decide +kernel
theorem dX9_can_133 : decode cX9_can 133 = .ok (.iload 4, 2) := by decide +kernel
theorem dX9_can_135 : decode cX9_can 135 = .ok (.invokestatic 56, 3) := by decide +kernel
theorem dX9_can_138 : decode cX9_can 138 = .ok (.ifCond .eq 57, 3) := by decide +kernel
theorem dX9_can_141 : decode cX9_can 141 = .ok (.aload_n 0, 1) := by decide +kernel
theorem dX9_can_142 : decode cX9_can 142 = .ok (.getfield 25, 3) := by decide +kernel
theorem dX9_can_145 : decode cX9_can 145 = .ok (.iload_n 3, 1) := by decide +kernel
theorem dX9_can_146 : decode cX9_can 146 = .ok (.dup2, 1) := by decide +kernel
theorem dX9_can_147 : decode cX9_can 147 = .ok (.iaload, 1) := by decide +kernel
theorem dX9_can_148 : decode cX9_can 148 = .ok (.iload 5, 2) := by decide +kernel
theorem dX9_can_150 : decode cX9_can 150 = .ok (.iload 6, 2) := by decide +kernel
theorem dX9_can_152 : decode cX9_can 152 = .ok (.invokestatic 56, 3) := by decide +kernel
theorem dX9_can_155 : decode cX9_can 155 = .ok (.ifCond .eq 31, 3) := by decide +kernel
theorem dX9_can_158 : decode cX9_can 158 = .ok (.aload_n 0, 1) := by decide +kernel
theorem dX9_can_159 : decode cX9_can 159 = .ok (.getfield 25, 3) := by decide +kernel
theorem dX9_can_162 : decode cX9_can 162 = .ok (.iload 5, 2) := by decide +kernel
theorem dX9_can_164 : decode cX9_can 164 = .ok (.iaload, 1) := by decide +kernel
theorem dX9_can_165 : decode cX9_can 165 = .ok (.iload 6, 2) := by decide +kernel
theorem dX9_can_167 : decode cX9_can 167 = .ok (.invokestatic 56, 3) := by decide +kernel
theorem dX9_can_170 : decode cX9_can 170 = .ok (.ifCond .eq 16, 3) := by decide +kernel
theorem dX9_can_173 : decode cX9_can 173 = .ok (.iconst 1, 1) := by decide +kernel
theorem dX9_can_174 : decode cX9_can 174 = .ok (.aload_n 0, 1) := by decide +kernel
theorem dX9_can_175 : decode cX9_can 175 = .ok (.iload 6, 2) := by decide +kernel
theorem dX9_can_177 : decode cX9_can 177 = .ok (.iload 4, 2) := by decide +kernel
theorem dX9_can_179 : decode cX9_can 179 = .ok (.invokevirtual 130, 3) := by decide +kernel
theorem dX9_can_182 : decode cX9_can 182 = .ok (.ishl, 1) := by decide +kernel
theorem dX9_can_183 : decode cX9_can 183 = .ok (.goto 4, 3) := by decide +kernel
theorem dX9_can_186 : decode cX9_can 186 = .ok (.iconst 0, 1) := by decide +kernel
theorem dX9_can_187 : decode cX9_can 187 = .ok (.ior, 1) := by decide +kernel
theorem dX9_can_188 : decode cX9_can 188 = .ok (.iastore, 1) := by decide +kernel
theorem dX9_can_189 : decode cX9_can 189 = .ok (.iinc 6 1, 3) := by decide +kernel
theorem dX9_can_192 : decode cX9_can 192 = .ok (.goto (-67), 3) := by decide +kernel
theorem dX9_can_195 : decode cX9_can 195 = .ok (.iinc 4 1, 3) := by decide +kernel
theorem dX9_can_198 : decode cX9_can 198 = .ok (.goto (-93), 3) := by decide +kernel
theorem dX9_can_201 : decode cX9_can 201 = .ok (.iinc 3 1, 3) := by decide +kernel
theorem dX9_can_204 : decode cX9_can 204 = .ok (.goto (-128), 3) := by decide +kernel
theorem dX9_can_207 : decode cX9_can 207 = .ok (.aload_n 0, 1) := by decide +kernel
theorem dX9_can_208 : decode cX9_can 208 = .ok (.getfield 25, 3) := by decide +kernel
theorem dX9_can_211 : decode cX9_can 211 = .ok (.sipush 255, 3) := by decide +kernel
theorem dX9_can_214 : decode cX9_can 214 = .ok (.iaload, 1) := by decide +kernel
theorem dX9_can_215 : decode cX9_can 215 = .ok (.iload_n 1, 1) := by decide +kernel
theorem dX9_can_216 : decode cX9_can 216 = .ok (.ishr, 1) := by decide +kernel
theorem dX9_can_217 : decode cX9_can 217 = .ok (.iconst 1, 1) := by decide +kernel
theorem dX9_can_218 : decode cX9_can 218 = .ok (.iand, 1) := by decide +kernel
theorem dX9_can_219 : decode cX9_can 219 = .ok (.ireturn, 1) := by decide +kernel
set_option maxRecDepth 20000 in
theorem ggX9_areApart_X9_has : GoodIn wsX9_areApart wsX9_has := goodIn_r _ [5] (by decide +kernel) (by decide +kernel)
set_option maxRecDepth 20000 in
theorem gX9_areApart_X9_has : GoodIn wsX9_areApart (va_wsS RX9 56 yX9_has wsX9_has) := goodIn_app (goodIn_of _ (by decide +kernel)) ggX9_areApart_X9_has
theorem dX9_areApart_0 : decode cX9_areApart 0 = .ok (.iconst 1, 1) := by decide +kernel
theorem dX9_areApart_1 : decode cX9_areApart 1 = .ok (.istore_n 2, 1) := by decide +kernel
theorem dX9_areApart_2 : decode cX9_areApart 2 = .ok (.iconst 0, 1) := by decide +kernel
theorem dX9_areApart_3 : decode cX9_areApart 3 = .ok (.istore_n 3, 1) := by decide +kernel
theorem dX9_areApart_4 : decode cX9_areApart 4 = .ok (.iload_n 3, 1) := by decide +kernel
theorem dX9_areApart_5 : decode cX9_areApart 5 = .ok (.bipush 7, 2) := by decide +kernel
theorem dX9_areApart_7 : decode cX9_areApart 7 = .ok (.if_icmp .ge 38, 3) := by decide +kernel
theorem dX9_areApart_10 : decode cX9_areApart 10 = .ok (.iload_n 2, 1) := by decide +kernel
theorem dX9_areApart_11 : decode cX9_areApart 11 = .ok (.ifCond .eq 26, 3) := by decide +kernel
theorem dX9_areApart_14 : decode cX9_areApart 14 = .ok (.iload_n 1, 1) := by decide +kernel
theorem dX9_areApart_15 : decode cX9_areApart 15 = .ok (.iload_n 3, 1) := by decide +kernel
theorem dX9_areApart_16 : decode cX9_areApart 16 = .ok (.invokestatic 56, 3) := by decide +kernel
theorem dX9_areApart_19 : decode cX9_areApart 19 = .ok (.ifCond .eq 14, 3) := by decide +kernel
theorem dX9_areApart_22 : decode cX9_areApart 22 = .ok (.aload_n 0, 1) := by decide +kernel
theorem dX9_areApart_23 : decode cX9_areApart 23 = .ok (.getfield 16, 3) := by decide +kernel
theorem dX9_areApart_26 : decode cX9_areApart 26 = .ok (.iload_n 3, 1) := by decide +kernel
theorem dX9_areApart_27 : decode cX9_areApart 27 = .ok (.iaload, 1) := by decide +kernel
theorem dX9_areApart_28 : decode cX9_areApart 28 = .ok (.iload_n 1, 1) := by decide +kernel
theorem dX9_areApart_29 : decode cX9_areApart 29 = .ok (.iand, 1) := by decide +kernel
theorem dX9_areApart_30 : decode cX9_areApart 30 = .ok (.ifCond .ne 7, 3) := by decide +kernel
theorem dX9_areApart_33 : decode cX9_areApart 33 = .ok (.iconst 1, 1) := by decide +kernel
theorem dX9_areApart_34 : decode cX9_areApart 34 = .ok (.goto 4, 3) := by decide +kernel
theorem dX9_areApart_37 : decode cX9_areApart 37 = .ok (.iconst 0, 1) := by decide +kernel
theorem dX9_areApart_38 : decode cX9_areApart 38 = .ok (.istore_n 2, 1) := by decide +kernel
theorem dX9_areApart_39 : decode cX9_areApart 39 = .ok (.iinc 3 1, 3) := by decide +kernel
theorem dX9_areApart_42 : decode cX9_areApart 42 = .ok (.goto (-38), 3) := by decide +kernel
theorem dX9_areApart_45 : decode cX9_areApart 45 = .ok (.iload_n 2, 1) := by decide +kernel
theorem dX9_areApart_46 : decode cX9_areApart 46 = .ok (.ireturn, 1) := by decide +kernel
set_option maxRecDepth 20000 in
theorem ggX9_ways_X9_in : GoodIn wsX9_ways wsX9_in := goodIn_r _ [7] (by decide +kernel) (by decide +kernel)
set_option maxRecDepth 20000 in
theorem gX9_ways_X9_in : GoodIn wsX9_ways (va_wsS RX9 48 yX9_in wsX9_in) := goodIn_app (goodIn_of _ (by decide +kernel)) ggX9_ways_X9_in
set_option maxRecDepth 20000 in
theorem ggX9_ways_X9_areApart : GoodIn wsX9_ways wsX9_areApart := goodIn_r _ [11, 12, 13, 14, 6, 15, 16, 17, 18, 19, 20, 21, 22, 23, 24, 25, 26, 27, 28, 29, 30, 31, 32, 33, 34] (by decide +kernel) (by decide +kernel)
set_option maxRecDepth 20000 in
theorem gX9_ways_X9_areApart : GoodIn wsX9_ways (wsV RX9 133 RX9 yX9_areApart wsX9_areApart) := goodIn_app (goodIn_of _ (by decide +kernel)) ggX9_ways_X9_areApart
theorem dX9_ways_0 : decode cX9_ways 0 = .ok (.iload_n 1, 1) := by decide +kernel
theorem dX9_ways_1 : decode cX9_ways 1 = .ok (.iconst 1, 1) := by decide +kernel
theorem dX9_ways_2 : decode cX9_ways 2 = .ok (.bipush 8, 2) := by decide +kernel
theorem dX9_ways_4 : decode cX9_ways 4 = .ok (.invokestatic 48, 3) := by decide +kernel
theorem dX9_ways_7 : decode cX9_ways 7 = .ok (.ifCond .eq 12, 3) := by decide +kernel
theorem dX9_ways_10 : decode cX9_ways 10 = .ok (.iload_n 2, 1) := by decide +kernel
theorem dX9_ways_11 : decode cX9_ways 11 = .ok (.iconst 0, 1) := by decide +kernel
theorem dX9_ways_12 : decode cX9_ways 12 = .ok (.iconst 1, 1) := by decide +kernel
theorem dX9_ways_13 : decode cX9_ways 13 = .ok (.invokestatic 48, 3) := by decide +kernel
theorem dX9_ways_16 : decode cX9_ways 16 = .ok (.ifCond .ne 6, 3) := by decide +kernel
theorem dX9_ways_19 : decode cX9_ways 19 = .ok (.bipush (-2), 2) := by decide +kernel
theorem dX9_ways_21 : decode cX9_ways 21 = .ok (.ireturn, 1) := by decide +kernel
theorem dX9_ways_22 : decode cX9_ways 22 = .ok (.iconst 0, 1) := by decide +kernel
theorem dX9_ways_23 : decode cX9_ways 23 = .ok (.istore_n 3, 1) := by decide +kernel
theorem dX9_ways_24 : decode cX9_ways 24 = .ok (.iload_n 3, 1) := by decide +kernel
theorem dX9_ways_25 : decode cX9_ways 25 = .ok (.sipush 128, 3) := by decide +kernel
theorem dX9_ways_28 : decode cX9_ways 28 = .ok (.if_icmp .ge 24, 3) := by decide +kernel
theorem dX9_ways_31 : decode cX9_ways 31 = .ok (.aload_n 0, 1) := by decide +kernel
theorem dX9_ways_32 : decode cX9_ways 32 = .ok (.getfield 28, 3) := by decide +kernel
theorem dX9_ways_35 : decode cX9_ways 35 = .ok (.iload_n 3, 1) := by decide +kernel
theorem dX9_ways_36 : decode cX9_ways 36 = .ok (.iload_n 3, 1) := by decide +kernel
theorem dX9_ways_37 : decode cX9_ways 37 = .ok (.ifCond .ne 7, 3) := by decide +kernel
theorem dX9_ways_40 : decode cX9_ways 40 = .ok (.iconst 1, 1) := by decide +kernel
theorem dX9_ways_41 : decode cX9_ways 41 = .ok (.goto 4, 3) := by decide +kernel
theorem dX9_ways_44 : decode cX9_ways 44 = .ok (.iconst 0, 1) := by decide +kernel
theorem dX9_ways_45 : decode cX9_ways 45 = .ok (.iastore, 1) := by decide +kernel
theorem dX9_ways_46 : decode cX9_ways 46 = .ok (.iinc 3 1, 3) := by decide +kernel
theorem dX9_ways_49 : decode cX9_ways 49 = .ok (.goto (-25), 3) := by decide +kernel
theorem dX9_ways_52 : decode cX9_ways 52 = .ok (.iload_n 2, 1) := by decide +kernel
theorem dX9_ways_53 : decode cX9_ways 53 = .ok (.iconst 1, 1) := by decide +kernel
theorem dX9_ways_54 : decode cX9_ways 54 = .ok (.if_icmp .ne 12, 3) := by decide +kernel
theorem dX9_ways_57 : decode cX9_ways 57 = .ok (.aload_n 0, 1) := by decide +kernel
theorem dX9_ways_58 : decode cX9_ways 58 = .ok (.getfield 52, 3) := by decide +kernel
theorem dX9_ways_61 : decode cX9_ways 61 = .ok (.ifCond .ne 5, 3) := by decide +kernel
theorem dX9_ways_64 : decode cX9_ways 64 = .ok (.iconst 0, 1) := by decide +kernel
theorem dX9_ways_65 : decode cX9_ways 65 = .ok (.ireturn, 1) := by decide +kernel
theorem dX9_ways_66 : decode cX9_ways 66 = .ok (.iconst 1, 1) := by decide +kernel
theorem dX9_ways_67 : decode cX9_ways 67 = .ok (.istore_n 3, 1) := by decide +kernel
theorem dX9_ways_68 : decode cX9_ways 68 = .ok (.iload_n 3, 1) := by decide +kernel
theorem dX9_ways_69 : decode cX9_ways 69 = .ok (.bipush 9, 2) := by decide +kernel
theorem dX9_ways_71 : decode cX9_ways 71 = .ok (.if_icmp .ge 168, 3) := by decide +kernel
theorem dX9_ways_74 : decode cX9_ways 74 = .ok (.iconst 0, 1) := by decide +kernel
theorem dX9_ways_75 : decode cX9_ways 75 = .ok (.istore 4, 2) := by decide +kernel
theorem dX9_ways_77 : decode cX9_ways 77 = .ok (.iload 4, 2) := by decide +kernel
theorem dX9_ways_79 : decode cX9_ways 79 = .ok (.sipush 128, 3) := by decide +kernel
theorem dX9_ways_82 : decode cX9_ways 82 = .ok (.if_icmp .ge 78, 3) := by decide +kernel
theorem dX9_ways_85 : decode cX9_ways 85 = .ok (.aload_n 0, 1) := by decide +kernel
theorem dX9_ways_86 : decode cX9_ways 86 = .ok (.getfield 31, 3) := by decide +kernel
theorem dX9_ways_89 : decode cX9_ways 89 = .ok (.iload 4, 2) := by decide +kernel
theorem dX9_ways_91 : decode cX9_ways 91 = .ok (.iconst 0, 1) := by decide +kernel
theorem dX9_ways_92 : decode cX9_ways 92 = .ok (.iastore, 1) := by decide +kernel
theorem dX9_ways_93 : decode cX9_ways 93 = .ok (.iconst 0, 1) := by decide +kernel
theorem dX9_ways_94 : decode cX9_ways 94 = .ok (.istore 5, 2) := by decide +kernel
theorem dX9_ways_96 : decode cX9_ways 96 = .ok (.iload 5, 2) := by decide +kernel
theorem dX9_ways_98 : decode cX9_ways 98 = .ok (.iload 4, 2) := by decide +kernel
theorem dX9_ways_100 : decode cX9_ways 100 = .ok (.if_icmp .gt 54, 3) := by decide +kernel
theorem dX9_ways_103 : decode cX9_ways 103 = .ok (.aload_n 0, 1) := by decide +kernel
theorem dX9_ways_104 : decode cX9_ways 104 = .ok (.getfield 31, 3) := by decide +kernel
theorem dX9_ways_107 : decode cX9_ways 107 = .ok (.iload 4, 2) := by decide +kernel
theorem dX9_ways_109 : decode cX9_ways 109 = .ok (.dup2, 1) := by decide +kernel
theorem dX9_ways_110 : decode cX9_ways 110 = .ok (.iaload, 1) := by decide +kernel
theorem dX9_ways_111 : decode cX9_ways 111 = .ok (.iload 5, 2) := by decide +kernel
theorem dX9_ways_113 : decode cX9_ways 113 = .ok (.iload 4, 2) := by decide +kernel
theorem dX9_ways_115 : decode cX9_ways 115 = .ok (.iconst (-1), 1) := by decide +kernel
theorem dX9_ways_116 : decode cX9_ways 116 = .ok (.ixor, 1) := by decide +kernel
theorem dX9_ways_117 : decode cX9_ways 117 = .ok (.iand, 1) := by decide +kernel
theorem dX9_ways_118 : decode cX9_ways 118 = .ok (.ifCond .ne 27, 3) := by decide +kernel
theorem dX9_ways_121 : decode cX9_ways 121 = .ok (.aload_n 0, 1) := by decide +kernel
theorem dX9_ways_122 : decode cX9_ways 122 = .ok (.iload 5, 2) := by decide +kernel
theorem dX9_ways_124 : decode cX9_ways 124 = .ok (.invokevirtual 133, 3) := by decide +kernel
theorem dX9_ways_127 : decode cX9_ways 127 = .ok (.ifCond .eq 18, 3) := by decide +kernel
theorem dX9_ways_130 : decode cX9_ways 130 = .ok (.aload_n 0, 1) := by decide +kernel
theorem dX9_ways_131 : decode cX9_ways 131 = .ok (.getfield 28, 3) := by decide +kernel
theorem dX9_ways_134 : decode cX9_ways 134 = .ok (.iload 4, 2) := by decide +kernel
theorem dX9_ways_136 : decode cX9_ways 136 = .ok (.iload 5, 2) := by decide +kernel
theorem dX9_ways_138 : decode cX9_ways 138 = .ok (.iconst (-1), 1) := by decide +kernel
theorem dX9_ways_139 : decode cX9_ways 139 = .ok (.ixor, 1) := by decide +kernel
theorem dX9_ways_140 : decode cX9_ways 140 = .ok (.iand, 1) := by decide +kernel
theorem dX9_ways_141 : decode cX9_ways 141 = .ok (.iaload, 1) := by decide +kernel
theorem dX9_ways_142 : decode cX9_ways 142 = .ok (.goto 4, 3) := by decide +kernel
theorem dX9_ways_145 : decode cX9_ways 145 = .ok (.iconst 0, 1) := by decide +kernel
theorem dX9_ways_146 : decode cX9_ways 146 = .ok (.iadd, 1) := by decide +kernel
theorem dX9_ways_147 : decode cX9_ways 147 = .ok (.iastore, 1) := by decide +kernel
theorem dX9_ways_148 : decode cX9_ways 148 = .ok (.iinc 5 1, 3) := by decide +kernel
theorem dX9_ways_151 : decode cX9_ways 151 = .ok (.goto (-55), 3) := by decide +kernel
theorem dX9_ways_154 : decode cX9_ways 154 = .ok (.iinc 4 1, 3) := by decide +kernel
theorem dX9_ways_157 : decode cX9_ways 157 = .ok (.goto (-80), 3) := by decide +kernel
theorem dX9_ways_160 : decode cX9_ways 160 = .ok (.iconst 0, 1) := by decide +kernel
theorem dX9_ways_161 : decode cX9_ways 161 = .ok (.istore 4, 2) := by decide +kernel
theorem dX9_ways_163 : decode cX9_ways 163 = .ok (.iload 4, 2) := by decide +kernel
theorem dX9_ways_165 : decode cX9_ways 165 = .ok (.sipush 128, 3) := by decide +kernel
theorem dX9_ways_168 : decode cX9_ways 168 = .ok (.if_icmp .ge 23, 3) := by decide +kernel
theorem dX9_ways_171 : decode cX9_ways 171 = .ok (.aload_n 0, 1) := by decide +kernel
theorem dX9_ways_172 : decode cX9_ways 172 = .ok (.getfield 28, 3) := by decide +kernel
theorem dX9_ways_175 : decode cX9_ways 175 = .ok (.iload 4, 2) := by decide +kernel
theorem dX9_ways_177 : decode cX9_ways 177 = .ok (.aload_n 0, 1) := by decide +kernel
theorem dX9_ways_178 : decode cX9_ways 178 = .ok (.getfield 31, 3) := by decide +kernel
theorem dX9_ways_181 : decode cX9_ways 181 = .ok (.iload 4, 2) := by decide +kernel
theorem dX9_ways_183 : decode cX9_ways 183 = .ok (.iaload, 1) := by decide +kernel
theorem dX9_ways_184 : decode cX9_ways 184 = .ok (.iastore, 1) := by decide +kernel
theorem dX9_ways_185 : decode cX9_ways 185 = .ok (.iinc 4 1, 3) := by decide +kernel
theorem dX9_ways_188 : decode cX9_ways 188 = .ok (.goto (-25), 3) := by decide +kernel
theorem dX9_ways_191 : decode cX9_ways 191 = .ok (.iload_n 2, 1) := by decide +kernel
theorem dX9_ways_192 : decode cX9_ways 192 = .ok (.ifCond .ne 11, 3) := by decide +kernel
theorem dX9_ways_195 : decode cX9_ways 195 = .ok (.iload_n 3, 1) := by decide +kernel
theorem dX9_ways_196 : decode cX9_ways 196 = .ok (.iload_n 1, 1) := by decide +kernel
theorem dX9_ways_197 : decode cX9_ways 197 = .ok (.if_icmp .ne 36, 3) := by decide +kernel
theorem dX9_ways_200 : decode cX9_ways 200 = .ok (.goto 15, 3) := by decide +kernel
theorem dX9_ways_203 : decode cX9_ways 203 = .ok (.aload_n 0, 1) := by decide +kernel
theorem dX9_ways_204 : decode cX9_ways 204 = .ok (.getfield 28, 3) := by decide +kernel
theorem dX9_ways_207 : decode cX9_ways 207 = .ok (.aload_n 0, 1) := by decide +kernel
theorem dX9_ways_208 : decode cX9_ways 208 = .ok (.getfield 52, 3) := by decide +kernel
theorem dX9_ways_211 : decode cX9_ways 211 = .ok (.iaload, 1) := by decide +kernel
theorem dX9_ways_212 : decode cX9_ways 212 = .ok (.ifCond .le 21, 3) := by decide +kernel
theorem dX9_ways_215 : decode cX9_ways 215 = .ok (.iload_n 2, 1) := by decide +kernel
theorem dX9_ways_216 : decode cX9_ways 216 = .ok (.ifCond .ne 15, 3) := by decide +kernel
theorem dX9_ways_219 : decode cX9_ways 219 = .ok (.aload_n 0, 1) := by decide +kernel
theorem dX9_ways_220 : decode cX9_ways 220 = .ok (.getfield 28, 3) := by decide +kernel
theorem dX9_ways_223 : decode cX9_ways 223 = .ok (.aload_n 0, 1) := by decide +kernel
theorem dX9_ways_224 : decode cX9_ways 224 = .ok (.getfield 52, 3) := by decide +kernel
theorem dX9_ways_227 : decode cX9_ways 227 = .ok (.iaload, 1) := by decide +kernel
theorem dX9_ways_228 : decode cX9_ways 228 = .ok (.goto 4, 3) := by decide +kernel
theorem dX9_ways_231 : decode cX9_ways 231 = .ok (.iload_n 3, 1) := by decide +kernel
theorem dX9_ways_232 : decode cX9_ways 232 = .ok (.ireturn, 1) := by decide +kernel
theorem dX9_ways_233 : decode cX9_ways 233 = .ok (.iinc 3 1, 3) := by decide +kernel
theorem dX9_ways_236 : decode cX9_ways 236 = .ok (.goto (-168), 3) := by decide +kernel
theorem dX9_ways_239 : decode cX9_ways 239 = .ok (.bipush (-6), 2) := by decide +kernel
theorem dX9_ways_241 : decode cX9_ways 241 = .ok (.ireturn, 1) := by decide +kernel
set_option maxRecDepth 20000 in
theorem ggX9_seen_X9_in : GoodIn wsX9_seen wsX9_in := goodIn_r _ [6] (by decide +kernel) (by decide +kernel)
set_option maxRecDepth 20000 in
theorem gX9_seen_X9_in : GoodIn wsX9_seen (va_wsS RX9 48 yX9_in wsX9_in) := goodIn_app (goodIn_of _ (by decide +kernel)) ggX9_seen_X9_in
theorem dX9_seen_0 : decode cX9_seen 0 = .ok (.iload_n 1, 1) := by decide +kernel
theorem dX9_seen_1 : decode cX9_seen 1 = .ok (.iconst 0, 1) := by decide +kernel
theorem dX9_seen_2 : decode cX9_seen 2 = .ok (.bipush 7, 2) := by decide +kernel
theorem dX9_seen_4 : decode cX9_seen 4 = .ok (.invokestatic 48, 3) := by decide +kernel
theorem dX9_seen_7 : decode cX9_seen 7 = .ok (.ifCond .ne 5, 3) := by decide +kernel
theorem dX9_seen_10 : decode cX9_seen 10 = .ok (.iconst (-1), 1) := by decide +kernel
theorem dX9_seen_11 : decode cX9_seen 11 = .ok (.ireturn, 1) := by decide +kernel
theorem dX9_seen_12 : decode cX9_seen 12 = .ok (.aload_n 0, 1) := by decide +kernel
theorem dX9_seen_13 : decode cX9_seen 13 = .ok (.getfield 136, 3) := by decide +kernel
theorem dX9_seen_16 : decode cX9_seen 16 = .ok (.bipush 8, 2) := by decide +kernel
theorem dX9_seen_18 : decode cX9_seen 18 = .ok (.if_icmp .ne 6, 3) := by decide +kernel
theorem dX9_seen_21 : decode cX9_seen 21 = .ok (.bipush (-4), 2) := by decide +kernel
theorem dX9_seen_23 : decode cX9_seen 23 = .ok (.ireturn, 1) := by decide +kernel
theorem dX9_seen_24 : decode cX9_seen 24 = .ok (.aload_n 0, 1) := by decide +kernel
theorem dX9_seen_25 : decode cX9_seen 25 = .ok (.getfield 19, 3) := by decide +kernel
theorem dX9_seen_28 : decode cX9_seen 28 = .ok (.iconst 2, 1) := by decide +kernel
theorem dX9_seen_29 : decode cX9_seen 29 = .ok (.aload_n 0, 1) := by decide +kernel
theorem dX9_seen_30 : decode cX9_seen 30 = .ok (.getfield 136, 3) := by decide +kernel
theorem dX9_seen_33 : decode cX9_seen 33 = .ok (.imul, 1) := by decide +kernel
theorem dX9_seen_34 : decode cX9_seen 34 = .ok (.iload_n 1, 1) := by decide +kernel
theorem dX9_seen_35 : decode cX9_seen 35 = .ok (.iastore, 1) := by decide +kernel
theorem dX9_seen_36 : decode cX9_seen 36 = .ok (.aload_n 0, 1) := by decide +kernel
theorem dX9_seen_37 : decode cX9_seen 37 = .ok (.getfield 19, 3) := by decide +kernel
theorem dX9_seen_40 : decode cX9_seen 40 = .ok (.iconst 2, 1) := by decide +kernel
theorem dX9_seen_41 : decode cX9_seen 41 = .ok (.aload_n 0, 1) := by decide +kernel
theorem dX9_seen_42 : decode cX9_seen 42 = .ok (.getfield 136, 3) := by decide +kernel
theorem dX9_seen_45 : decode cX9_seen 45 = .ok (.imul, 1) := by decide +kernel
theorem dX9_seen_46 : decode cX9_seen 46 = .ok (.iconst 1, 1) := by decide +kernel
theorem dX9_seen_47 : decode cX9_seen 47 = .ok (.iadd, 1) := by decide +kernel
theorem dX9_seen_48 : decode cX9_seen 48 = .ok (.iload_n 2, 1) := by decide +kernel
theorem dX9_seen_49 : decode cX9_seen 49 = .ok (.ifCond .eq 7, 3) := by decide +kernel
theorem dX9_seen_52 : decode cX9_seen 52 = .ok (.iconst 1, 1) := by decide +kernel
theorem dX9_seen_53 : decode cX9_seen 53 = .ok (.goto 4, 3) := by decide +kernel
theorem dX9_seen_56 : decode cX9_seen 56 = .ok (.iconst 0, 1) := by decide +kernel
theorem dX9_seen_57 : decode cX9_seen 57 = .ok (.iastore, 1) := by decide +kernel
theorem dX9_seen_58 : decode cX9_seen 58 = .ok (.aload_n 0, 1) := by decide +kernel
theorem dX9_seen_59 : decode cX9_seen 59 = .ok (.dup, 1) := by decide +kernel
theorem dX9_seen_60 : decode cX9_seen 60 = .ok (.getfield 136, 3) := by decide +kernel
theorem dX9_seen_63 : decode cX9_seen 63 = .ok (.iconst 1, 1) := by decide +kernel
theorem dX9_seen_64 : decode cX9_seen 64 = .ok (.iadd, 1) := by decide +kernel
theorem dX9_seen_65 : decode cX9_seen 65 = .ok (.putfield 136, 3) := by decide +kernel
theorem dX9_seen_68 : decode cX9_seen 68 = .ok (.aload_n 0, 1) := by decide +kernel
theorem dX9_seen_69 : decode cX9_seen 69 = .ok (.getfield 136, 3) := by decide +kernel
theorem dX9_seen_72 : decode cX9_seen 72 = .ok (.ireturn, 1) := by decide +kernel
theorem dX9_forget_0 : decode cX9_forget 0 = .ok (.aload_n 0, 1) := by decide +kernel
theorem dX9_forget_1 : decode cX9_forget 1 = .ok (.getfield 136, 3) := by decide +kernel
theorem dX9_forget_4 : decode cX9_forget 4 = .ok (.istore_n 1, 1) := by decide +kernel
theorem dX9_forget_5 : decode cX9_forget 5 = .ok (.aload_n 0, 1) := by decide +kernel
theorem dX9_forget_6 : decode cX9_forget 6 = .ok (.iconst 0, 1) := by decide +kernel
theorem dX9_forget_7 : decode cX9_forget 7 = .ok (.putfield 136, 3) := by decide +kernel
theorem dX9_forget_10 : decode cX9_forget 10 = .ok (.iload_n 1, 1) := by decide +kernel
theorem dX9_forget_11 : decode cX9_forget 11 = .ok (.ireturn, 1) := by decide +kernel
set_option maxRecDepth 20000 in
theorem ggX9_saysYes_X9_apartOf : GoodIn wsX9_saysYes wsX9_apartOf := goodIn_r _ [4] (by decide +kernel) (by decide +kernel)
set_option maxRecDepth 20000 in
theorem gX9_saysYes_X9_apartOf : GoodIn wsX9_saysYes (va_wsS RX9 81 yX9_apartOf wsX9_apartOf) := goodIn_app (goodIn_of _ (by decide +kernel)) ggX9_saysYes_X9_apartOf
theorem dX9_saysYes_0 : decode cX9_saysYes 0 = .ok (.iload_n 0, 1) := by decide +kernel
theorem dX9_saysYes_1 : decode cX9_saysYes 1 = .ok (.bipush 10, 2) := by decide +kernel
theorem dX9_saysYes_3 : decode cX9_saysYes 3 = .ok (.idiv, 1) := by decide +kernel
theorem dX9_saysYes_4 : decode cX9_saysYes 4 = .ok (.iload_n 1, 1) := by decide +kernel
theorem dX9_saysYes_5 : decode cX9_saysYes 5 = .ok (.invokestatic 81, 3) := by decide +kernel
theorem dX9_saysYes_8 : decode cX9_saysYes 8 = .ok (.iload_n 0, 1) := by decide +kernel
theorem dX9_saysYes_9 : decode cX9_saysYes 9 = .ok (.bipush 10, 2) := by decide +kernel
theorem dX9_saysYes_11 : decode cX9_saysYes 11 = .ok (.irem, 1) := by decide +kernel
theorem dX9_saysYes_12 : decode cX9_saysYes 12 = .ok (.if_icmp .gt 7, 3) := by decide +kernel
theorem dX9_saysYes_15 : decode cX9_saysYes 15 = .ok (.iconst 1, 1) := by decide +kernel
theorem dX9_saysYes_16 : decode cX9_saysYes 16 = .ok (.goto 4, 3) := by decide +kernel
theorem dX9_saysYes_19 : decode cX9_saysYes 19 = .ok (.iconst 0, 1) := by decide +kernel
theorem dX9_saysYes_20 : decode cX9_saysYes 20 = .ok (.ireturn, 1) := by decide +kernel
set_option maxRecDepth 20000 in
theorem ggX9_isFit_X9_saysYes : GoodIn wsX9_isFit wsX9_saysYes := goodIn_r _ [6, 7, 8, 5, 9] (by decide +kernel) (by decide +kernel)
set_option maxRecDepth 20000 in
theorem gX9_isFit_X9_saysYes : GoodIn wsX9_isFit (va_wsS RX9 139 yX9_saysYes wsX9_saysYes) := goodIn_app (goodIn_of _ (by decide +kernel)) ggX9_isFit_X9_saysYes
theorem dX9_isFit_0 : decode cX9_isFit 0 = .ok (.iload_n 1, 1) := by decide +kernel
theorem dX9_isFit_1 : decode cX9_isFit 1 = .ok (.bipush 10, 2) := by decide +kernel
theorem dX9_isFit_3 : decode cX9_isFit 3 = .ok (.irem, 1) := by decide +kernel
theorem dX9_isFit_4 : decode cX9_isFit 4 = .ok (.iconst 4, 1) := by decide +kernel
theorem dX9_isFit_5 : decode cX9_isFit 5 = .ok (.if_icmp .ge 7, 3) := by decide +kernel
theorem dX9_isFit_8 : decode cX9_isFit 8 = .ok (.iconst 1, 1) := by decide +kernel
theorem dX9_isFit_9 : decode cX9_isFit 9 = .ok (.goto 4, 3) := by decide +kernel
theorem dX9_isFit_12 : decode cX9_isFit 12 = .ok (.iconst 0, 1) := by decide +kernel
theorem dX9_isFit_13 : decode cX9_isFit 13 = .ok (.istore_n 2, 1) := by decide +kernel
theorem dX9_isFit_14 : decode cX9_isFit 14 = .ok (.iconst 0, 1) := by decide +kernel
theorem dX9_isFit_15 : decode cX9_isFit 15 = .ok (.istore_n 3, 1) := by decide +kernel
theorem dX9_isFit_16 : decode cX9_isFit 16 = .ok (.iload_n 3, 1) := by decide +kernel
theorem dX9_isFit_17 : decode cX9_isFit 17 = .ok (.aload_n 0, 1) := by decide +kernel
theorem dX9_isFit_18 : decode cX9_isFit 18 = .ok (.getfield 136, 3) := by decide +kernel
theorem dX9_isFit_21 : decode cX9_isFit 21 = .ok (.if_icmp .ge 53, 3) := by decide +kernel
theorem dX9_isFit_24 : decode cX9_isFit 24 = .ok (.iload_n 2, 1) := by decide +kernel
theorem dX9_isFit_25 : decode cX9_isFit 25 = .ok (.ifCond .eq 49, 3) := by decide +kernel
theorem dX9_isFit_28 : decode cX9_isFit 28 = .ok (.iload_n 1, 1) := by decide +kernel
theorem dX9_isFit_29 : decode cX9_isFit 29 = .ok (.aload_n 0, 1) := by decide +kernel
theorem dX9_isFit_30 : decode cX9_isFit 30 = .ok (.getfield 19, 3) := by decide +kernel
theorem dX9_isFit_33 : decode cX9_isFit 33 = .ok (.iconst 2, 1) := by decide +kernel
theorem dX9_isFit_34 : decode cX9_isFit 34 = .ok (.iload_n 3, 1) := by decide +kernel
theorem dX9_isFit_35 : decode cX9_isFit 35 = .ok (.imul, 1) := by decide +kernel
theorem dX9_isFit_36 : decode cX9_isFit 36 = .ok (.iaload, 1) := by decide +kernel
theorem dX9_isFit_37 : decode cX9_isFit 37 = .ok (.invokestatic 139, 3) := by decide +kernel
theorem dX9_isFit_40 : decode cX9_isFit 40 = .ok (.aload_n 0, 1) := by decide +kernel
theorem dX9_isFit_41 : decode cX9_isFit 41 = .ok (.getfield 19, 3) := by decide +kernel
theorem dX9_isFit_44 : decode cX9_isFit 44 = .ok (.iconst 2, 1) := by decide +kernel
theorem dX9_isFit_45 : decode cX9_isFit 45 = .ok (.iload_n 3, 1) := by decide +kernel
theorem dX9_isFit_46 : decode cX9_isFit 46 = .ok (.imul, 1) := by decide +kernel
theorem dX9_isFit_47 : decode cX9_isFit 47 = .ok (.iconst 1, 1) := by decide +kernel
theorem dX9_isFit_48 : decode cX9_isFit 48 = .ok (.iadd, 1) := by decide +kernel
theorem dX9_isFit_49 : decode cX9_isFit 49 = .ok (.iaload, 1) := by decide +kernel
theorem dX9_isFit_50 : decode cX9_isFit 50 = .ok (.iconst 1, 1) := by decide +kernel
theorem dX9_isFit_51 : decode cX9_isFit 51 = .ok (.if_icmp .ne 7, 3) := by decide +kernel
theorem dX9_isFit_54 : decode cX9_isFit 54 = .ok (.iconst 1, 1) := by decide +kernel
theorem dX9_isFit_55 : decode cX9_isFit 55 = .ok (.goto 4, 3) := by decide +kernel
theorem dX9_isFit_58 : decode cX9_isFit 58 = .ok (.iconst 0, 1) := by decide +kernel
theorem dX9_isFit_59 : decode cX9_isFit 59 = .ok (.if_icmp .ne 7, 3) := by decide +kernel
theorem dX9_isFit_62 : decode cX9_isFit 62 = .ok (.iconst 1, 1) := by decide +kernel
theorem dX9_isFit_63 : decode cX9_isFit 63 = .ok (.goto 4, 3) := by decide +kernel
theorem dX9_isFit_66 : decode cX9_isFit 66 = .ok (.iconst 0, 1) := by decide +kernel
theorem dX9_isFit_67 : decode cX9_isFit 67 = .ok (.istore_n 2, 1) := by decide +kernel
theorem dX9_isFit_68 : decode cX9_isFit 68 = .ok (.iinc 3 1, 3) := by decide +kernel
theorem dX9_isFit_71 : decode cX9_isFit 71 = .ok (.goto (-55), 3) := by decide +kernel
theorem dX9_isFit_74 : decode cX9_isFit 74 = .ok (.iload_n 2, 1) := by decide +kernel
theorem dX9_isFit_75 : decode cX9_isFit 75 = .ok (.ireturn, 1) := by decide +kernel
set_option maxRecDepth 20000 in
theorem ggX9_stuck_X9_isFit : GoodIn wsX9_stuck wsX9_isFit := goodIn_r _ [5, 6, 7, 8, 9, 4, 10, 11, 12, 13, 14, 15, 16, 17, 18, 19, 20, 21, 22, 23, 24, 25, 26, 27, 28, 29, 30, 31, 32] (by decide +kernel) (by decide +kernel)
set_option maxRecDepth 20000 in
theorem gX9_stuck_X9_isFit : GoodIn wsX9_stuck (wsV RX9 142 RX9 yX9_isFit wsX9_isFit) := goodIn_app (goodIn_of _ (by decide +kernel)) ggX9_stuck_X9_isFit
theorem dX9_stuck_0 : decode cX9_stuck 0 = .ok (.iconst 0, 1) := by decide +kernel
theorem dX9_stuck_1 : decode cX9_stuck 1 = .ok (.istore_n 2, 1) := by decide +kernel
theorem dX9_stuck_2 : decode cX9_stuck 2 = .ok (.iconst 0, 1) := by decide +kernel
theorem dX9_stuck_3 : decode cX9_stuck 3 = .ok (.istore_n 3, 1) := by decide +kernel
theorem dX9_stuck_4 : decode cX9_stuck 4 = .ok (.iload_n 3, 1) := by decide +kernel
theorem dX9_stuck_5 : decode cX9_stuck 5 = .ok (.bipush 80, 2) := by decide +kernel
theorem dX9_stuck_7 : decode cX9_stuck 7 = .ok (.if_icmp .ge 27, 3) := by decide +kernel
theorem dX9_stuck_10 : decode cX9_stuck 10 = .ok (.aload_n 0, 1) := by decide +kernel
theorem dX9_stuck_11 : decode cX9_stuck 11 = .ok (.iload_n 3, 1) := by decide +kernel
theorem dX9_stuck_12 : decode cX9_stuck 12 = .ok (.invokevirtual 142, 3) := by decide +kernel
theorem dX9_stuck_15 : decode cX9_stuck 15 = .ok (.ifCond .eq 13, 3) := by decide +kernel
theorem dX9_stuck_18 : decode cX9_stuck 18 = .ok (.iload_n 2, 1) := by decide +kernel
theorem dX9_stuck_19 : decode cX9_stuck 19 = .ok (.iload_n 1, 1) := by decide +kernel
theorem dX9_stuck_20 : decode cX9_stuck 20 = .ok (.if_icmp .ne 5, 3) := by decide +kernel
theorem dX9_stuck_23 : decode cX9_stuck 23 = .ok (.iload_n 3, 1) := by decide +kernel
theorem dX9_stuck_24 : decode cX9_stuck 24 = .ok (.ireturn, 1) := by decide +kernel
theorem dX9_stuck_25 : decode cX9_stuck 25 = .ok (.iinc 2 1, 3) := by decide +kernel
theorem dX9_stuck_28 : decode cX9_stuck 28 = .ok (.iinc 3 1, 3) := by decide +kernel
theorem dX9_stuck_31 : decode cX9_stuck 31 = .ok (.goto (-27), 3) := by decide +kernel
theorem dX9_stuck_34 : decode cX9_stuck 34 = .ok (.iload_n 1, 1) := by decide +kernel
theorem dX9_stuck_35 : decode cX9_stuck 35 = .ok (.iconst (-1), 1) := by decide +kernel
theorem dX9_stuck_36 : decode cX9_stuck 36 = .ok (.if_icmp .ne 7, 3) := by decide +kernel
theorem dX9_stuck_39 : decode cX9_stuck 39 = .ok (.iload_n 2, 1) := by decide +kernel
theorem dX9_stuck_40 : decode cX9_stuck 40 = .ok (.goto 5, 3) := by decide +kernel
theorem dX9_stuck_43 : decode cX9_stuck 43 = .ok (.bipush (-6), 2) := by decide +kernel
theorem dX9_stuck_45 : decode cX9_stuck 45 = .ok (.ireturn, 1) := by decide +kernel
set_option maxRecDepth 20000 in
theorem ggX9_ask_X9_in : GoodIn wsX9_ask wsX9_in := goodIn_r _ [5] (by decide +kernel) (by decide +kernel)
set_option maxRecDepth 20000 in
theorem gX9_ask_X9_in : GoodIn wsX9_ask (va_wsS RX9 48 yX9_in wsX9_in) := goodIn_app (goodIn_of _ (by decide +kernel)) ggX9_ask_X9_in
set_option maxRecDepth 20000 in
theorem ggX9_ask_X9_isFit : GoodIn wsX9_ask wsX9_isFit := goodIn_r _ [9, 10, 11, 12, 13, 4, 14, 15, 16, 17, 18, 19, 20, 21, 22, 23, 24, 25, 26, 27, 28, 29, 30, 31, 32, 33, 34, 35, 36] (by decide +kernel) (by decide +kernel)
set_option maxRecDepth 20000 in
theorem gX9_ask_X9_isFit : GoodIn wsX9_ask (wsV RX9 142 RX9 yX9_isFit wsX9_isFit) := goodIn_app (goodIn_of _ (by decide +kernel)) ggX9_ask_X9_isFit
set_option maxRecDepth 20000 in
theorem ggX9_ask_X9_saysYes : GoodIn wsX9_ask wsX9_saysYes := goodIn_r _ [14, 15, 16, 4, 17] (by decide +kernel) (by decide +kernel)
set_option maxRecDepth 20000 in
theorem gX9_ask_X9_saysYes : GoodIn wsX9_ask (va_wsS RX9 139 yX9_saysYes wsX9_saysYes) := goodIn_app (goodIn_of _ (by decide +kernel)) ggX9_ask_X9_saysYes
theorem dX9_ask_0 : decode cX9_ask 0 = .ok (.iload_n 1, 1) := by decide +kernel
theorem dX9_ask_1 : decode cX9_ask 1 = .ok (.iconst 0, 1) := by decide +kernel
theorem dX9_ask_2 : decode cX9_ask 2 = .ok (.iconst 1, 1) := by decide +kernel
theorem dX9_ask_3 : decode cX9_ask 3 = .ok (.invokestatic 48, 3) := by decide +kernel
theorem dX9_ask_6 : decode cX9_ask 6 = .ok (.ifCond .ne 6, 3) := by decide +kernel
theorem dX9_ask_9 : decode cX9_ask 9 = .ok (.bipush (-2), 2) := by decide +kernel
theorem dX9_ask_11 : decode cX9_ask 11 = .ok (.ireturn, 1) := by decide +kernel
theorem dX9_ask_12 : decode cX9_ask 12 = .ok (.bipush (-6), 2) := by decide +kernel
theorem dX9_ask_14 : decode cX9_ask 14 = .ok (.istore_n 2, 1) := by decide +kernel
theorem dX9_ask_15 : decode cX9_ask 15 = .ok (.ldc 145, 2) := by decide +kernel
theorem dX9_ask_17 : decode cX9_ask 17 = .ok (.istore_n 3, 1) := by decide +kernel
theorem dX9_ask_18 : decode cX9_ask 18 = .ok (.iconst 0, 1) := by decide +kernel
theorem dX9_ask_19 : decode cX9_ask 19 = .ok (.istore 4, 2) := by decide +kernel
theorem dX9_ask_21 : decode cX9_ask 21 = .ok (.iload 4, 2) := by decide +kernel
theorem dX9_ask_23 : decode cX9_ask 23 = .ok (.bipush 8, 2) := by decide +kernel
theorem dX9_ask_25 : decode cX9_ask 25 = .ok (.if_icmp .ge 143, 3) := by decide +kernel
theorem dX9_ask_28 : decode cX9_ask 28 = .ok (.iconst 0, 1) := by decide +kernel
theorem dX9_ask_29 : decode cX9_ask 29 = .ok (.istore 5, 2) := by decide +kernel
theorem dX9_ask_31 : decode cX9_ask 31 = .ok (.iconst 0, 1) := by decide +kernel
theorem dX9_ask_32 : decode cX9_ask 32 = .ok (.istore 6, 2) := by decide +kernel
theorem dX9_ask_34 : decode cX9_ask 34 = .ok (.iconst 0, 1) := by decide +kernel
theorem dX9_ask_35 : decode cX9_ask 35 = .ok (.istore 7, 2) := by decide +kernel
theorem dX9_ask_37 : decode cX9_ask 37 = .ok (.iload 7, 2) := by decide +kernel
theorem dX9_ask_39 : decode cX9_ask 39 = .ok (.bipush 80, 2) := by decide +kernel
theorem dX9_ask_41 : decode cX9_ask 41 = .ok (.if_icmp .ge 57, 3) := by decide +kernel
theorem dX9_ask_44 : decode cX9_ask 44 = .ok (.aload_n 0, 1) := by decide +kernel
theorem dX9_ask_45 : decode cX9_ask 45 = .ok (.iload 7, 2) := by decide +kernel
theorem dX9_ask_47 : decode cX9_ask 47 = .ok (.invokevirtual 142, 3) := by decide +kernel
theorem dX9_ask_50 : decode cX9_ask 50 = .ok (.istore 8, 2) := by decide +kernel
theorem dX9_ask_52 : decode cX9_ask 52 = .ok (.iload 5, 2) := by decide +kernel
theorem dX9_ask_54 : decode cX9_ask 54 = .ok (.iload 8, 2) := by decide +kernel
theorem dX9_ask_56 : decode cX9_ask 56 = .ok (.ifCond .eq 7, 3) := by decide +kernel
theorem dX9_ask_59 : decode cX9_ask 59 = .ok (.iconst 1, 1) := by decide +kernel
theorem dX9_ask_60 : decode cX9_ask 60 = .ok (.goto 4, 3) := by decide +kernel
theorem dX9_ask_63 : decode cX9_ask 63 = .ok (.iconst 0, 1) := by decide +kernel
theorem dX9_ask_64 : decode cX9_ask 64 = .ok (.iadd, 1) := by decide +kernel
theorem dX9_ask_65 : decode cX9_ask 65 = .ok (.istore 5, 2) := by decide +kernel
theorem dX9_ask_67 : decode cX9_ask 67 = .ok (.iload 6, 2) := by decide +kernel
theorem dX9_ask_69 : decode cX9_ask 69 = .ok (.iload 8, 2) := by decide +kernel
theorem dX9_ask_71 : decode cX9_ask 71 = .ok (.ifCond .eq 17, 3) := by decide +kernel
theorem dX9_ask_74 : decode cX9_ask 74 = .ok (.iload 7, 2) := by decide +kernel
theorem dX9_ask_76 : decode cX9_ask 76 = .ok (.iload 4, 2) := by decide +kernel
theorem dX9_ask_78 : decode cX9_ask 78 = .ok (.invokestatic 139, 3) := by decide +kernel
theorem dX9_ask_81 : decode cX9_ask 81 = .ok (.ifCond .eq 7, 3) := by decide +kernel
theorem dX9_ask_84 : decode cX9_ask 84 = .ok (.iconst 1, 1) := by decide +kernel
theorem dX9_ask_85 : decode cX9_ask 85 = .ok (.goto 4, 3) := by decide +kernel
theorem dX9_ask_88 : decode cX9_ask 88 = .ok (.iconst 0, 1) := by decide +kernel
theorem dX9_ask_89 : decode cX9_ask 89 = .ok (.iadd, 1) := by decide +kernel
theorem dX9_ask_90 : decode cX9_ask 90 = .ok (.istore 6, 2) := by decide +kernel
theorem dX9_ask_92 : decode cX9_ask 92 = .ok (.iinc 7 1, 3) := by decide +kernel
theorem dX9_ask_95 : decode cX9_ask 95 = .ok (.goto (-58), 3) := by decide +kernel
theorem dX9_ask_98 : decode cX9_ask 98 = .ok (.iload 6, 2) := by decide +kernel
theorem dX9_ask_100 : decode cX9_ask 100 = .ok (.iload 5, 2) := by decide +kernel
theorem dX9_ask_102 : decode cX9_ask 102 = .ok (.iload 6, 2) := by decide +kernel
theorem dX9_ask_104 : decode cX9_ask 104 = .ok (.isub, 1) := by decide +kernel
theorem dX9_ask_105 : decode cX9_ask 105 = .ok (.if_icmp .le 8, 3) := by decide +kernel
theorem dX9_ask_108 : decode cX9_ask 108 = .ok (.iload 6, 2) := by decide +kernel
theorem dX9_ask_110 : decode cX9_ask 110 = .ok (.goto 8, 3) := by decide +kernel
theorem dX9_ask_113 : decode cX9_ask 113 = .ok (.iload 5, 2) := by decide +kernel
theorem dX9_ask_115 : decode cX9_ask 115 = .ok (.iload 6, 2) := by decide +kernel
theorem dX9_ask_117 : decode cX9_ask 117 = .ok (.isub, 1) := by decide +kernel
theorem dX9_ask_118 : decode cX9_ask 118 = .ok (.istore 7, 2) := by decide +kernel
theorem dX9_ask_120 : decode cX9_ask 120 = .ok (.iload 5, 2) := by decide +kernel
theorem dX9_ask_122 : decode cX9_ask 122 = .ok (.ifCond .le 13, 3) := by decide +kernel
theorem dX9_ask_125 : decode cX9_ask 125 = .ok (.iload 7, 2) := by decide +kernel
theorem dX9_ask_127 : decode cX9_ask 127 = .ok (.iload_n 3, 1) := by decide +kernel
theorem dX9_ask_128 : decode cX9_ask 128 = .ok (.if_icmp .ge 7, 3) := by decide +kernel
theorem dX9_ask_131 : decode cX9_ask 131 = .ok (.iconst 1, 1) := by decide +kernel
theorem dX9_ask_132 : decode cX9_ask 132 = .ok (.goto 4, 3) := by decide +kernel
theorem dX9_ask_135 : decode cX9_ask 135 = .ok (.iconst 0, 1) := by decide +kernel
theorem dX9_ask_136 : decode cX9_ask 136 = .ok (.istore 8, 2) := by decide +kernel
theorem dX9_ask_138 : decode cX9_ask 138 = .ok (.iload 8, 2) := by decide +kernel
theorem dX9_ask_140 : decode cX9_ask 140 = .ok (.ifCond .eq 8, 3) := by decide +kernel
theorem dX9_ask_143 : decode cX9_ask 143 = .ok (.iload 4, 2) := by decide +kernel
theorem dX9_ask_145 : decode cX9_ask 145 = .ok (.goto 4, 3) := by decide +kernel
theorem dX9_ask_148 : decode cX9_ask 148 = .ok (.iload_n 2, 1) := by decide +kernel
theorem dX9_ask_149 : decode cX9_ask 149 = .ok (.istore_n 2, 1) := by decide +kernel
theorem dX9_ask_150 : decode cX9_ask 150 = .ok (.iload 8, 2) := by decide +kernel
theorem dX9_ask_152 : decode cX9_ask 152 = .ok (.ifCond .eq 8, 3) := by decide +kernel
theorem dX9_ask_155 : decode cX9_ask 155 = .ok (.iload 7, 2) := by decide +kernel
theorem dX9_ask_157 : decode cX9_ask 157 = .ok (.goto 4, 3) := by decide +kernel
theorem dX9_ask_160 : decode cX9_ask 160 = .ok (.iload_n 3, 1) := by decide +kernel
theorem dX9_ask_161 : decode cX9_ask 161 = .ok (.istore_n 3, 1) := by decide +kernel
theorem dX9_ask_162 : decode cX9_ask 162 = .ok (.iinc 4 1, 3) := by decide +kernel
theorem dX9_ask_165 : decode cX9_ask 165 = .ok (.goto (-144), 3) := by decide +kernel
theorem dX9_ask_168 : decode cX9_ask 168 = .ok (.iload_n 2, 1) := by decide +kernel
theorem dX9_ask_169 : decode cX9_ask 169 = .ok (.ifCond .lt 7, 3) := by decide +kernel
theorem dX9_ask_172 : decode cX9_ask 172 = .ok (.iload_n 1, 1) := by decide +kernel
theorem dX9_ask_173 : decode cX9_ask 173 = .ok (.ifCond .ne 7, 3) := by decide +kernel
theorem dX9_ask_176 : decode cX9_ask 176 = .ok (.iload_n 2, 1) := by decide +kernel
theorem dX9_ask_177 : decode cX9_ask 177 = .ok (.goto 4, 3) := by decide +kernel
theorem dX9_ask_180 : decode cX9_ask 180 = .ok (.iload_n 3, 1) := by decide +kernel
theorem dX9_ask_181 : decode cX9_ask 181 = .ok (.ireturn, 1) := by decide +kernel
set_option maxRecDepth 20000 in
theorem ggX9_drops_X9_in : GoodIn wsX9_drops wsX9_in := goodIn_r _ [5] (by decide +kernel) (by decide +kernel)
set_option maxRecDepth 20000 in
theorem gX9_drops_X9_in : GoodIn wsX9_drops (va_wsS RX9 48 yX9_in wsX9_in) := goodIn_app (goodIn_of _ (by decide +kernel)) ggX9_drops_X9_in
theorem dX9_drops_0 : decode cX9_drops 0 = .ok (.iload_n 1, 1) := by decide +kernel
theorem dX9_drops_1 : decode cX9_drops 1 = .ok (.iconst 0, 1) := by decide +kernel
theorem dX9_drops_2 : decode cX9_drops 2 = .ok (.sipush 200, 3) := by decide +kernel
theorem dX9_drops_5 : decode cX9_drops 5 = .ok (.invokestatic 48, 3) := by decide +kernel
theorem dX9_drops_8 : decode cX9_drops 8 = .ok (.ifCond .eq 12, 3) := by decide +kernel
theorem dX9_drops_11 : decode cX9_drops 11 = .ok (.iload_n 2, 1) := by decide +kernel
theorem dX9_drops_12 : decode cX9_drops 12 = .ok (.iconst 0, 1) := by decide +kernel
theorem dX9_drops_13 : decode cX9_drops 13 = .ok (.iconst 1, 1) := by decide +kernel
theorem dX9_drops_14 : decode cX9_drops 14 = .ok (.invokestatic 48, 3) := by decide +kernel
theorem dX9_drops_17 : decode cX9_drops 17 = .ok (.ifCond .ne 6, 3) := by decide +kernel
theorem dX9_drops_20 : decode cX9_drops 20 = .ok (.bipush (-2), 2) := by decide +kernel
theorem dX9_drops_22 : decode cX9_drops 22 = .ok (.ireturn, 1) := by decide +kernel
theorem dX9_drops_23 : decode cX9_drops 23 = .ok (.bipush (-6), 2) := by decide +kernel
theorem dX9_drops_25 : decode cX9_drops 25 = .ok (.istore_n 3, 1) := by decide +kernel
theorem dX9_drops_26 : decode cX9_drops 26 = .ok (.iconst 0, 1) := by decide +kernel
theorem dX9_drops_27 : decode cX9_drops 27 = .ok (.istore 4, 2) := by decide +kernel
theorem dX9_drops_29 : decode cX9_drops 29 = .ok (.iload 4, 2) := by decide +kernel
theorem dX9_drops_31 : decode cX9_drops 31 = .ok (.iload_n 1, 1) := by decide +kernel
theorem dX9_drops_32 : decode cX9_drops 32 = .ok (.if_icmp .gt 79, 3) := by decide +kernel
theorem dX9_drops_35 : decode cX9_drops 35 = .ok (.bipush (-6), 2) := by decide +kernel
theorem dX9_drops_37 : decode cX9_drops 37 = .ok (.istore_n 3, 1) := by decide +kernel
theorem dX9_drops_38 : decode cX9_drops 38 = .ok (.bipush 14, 2) := by decide +kernel
theorem dX9_drops_40 : decode cX9_drops 40 = .ok (.istore 5, 2) := by decide +kernel
theorem dX9_drops_42 : decode cX9_drops 42 = .ok (.iload 5, 2) := by decide +kernel
theorem dX9_drops_44 : decode cX9_drops 44 = .ok (.ifCond .le 45, 3) := by decide +kernel
theorem dX9_drops_47 : decode cX9_drops 47 = .ok (.iload 5, 2) := by decide +kernel
theorem dX9_drops_49 : decode cX9_drops 49 = .ok (.iload 5, 2) := by decide +kernel
theorem dX9_drops_51 : decode cX9_drops 51 = .ok (.imul, 1) := by decide +kernel
theorem dX9_drops_52 : decode cX9_drops 52 = .ok (.iload 4, 2) := by decide +kernel
theorem dX9_drops_54 : decode cX9_drops 54 = .ok (.if_icmp .gt 27, 3) := by decide +kernel
theorem dX9_drops_57 : decode cX9_drops 57 = .ok (.aload_n 0, 1) := by decide +kernel
theorem dX9_drops_58 : decode cX9_drops 58 = .ok (.getfield 34, 3) := by decide +kernel
theorem dX9_drops_61 : decode cX9_drops 61 = .ok (.iload 4, 2) := by decide +kernel
theorem dX9_drops_63 : decode cX9_drops 63 = .ok (.iload 5, 2) := by decide +kernel
theorem dX9_drops_65 : decode cX9_drops 65 = .ok (.iload 5, 2) := by decide +kernel
theorem dX9_drops_67 : decode cX9_drops 67 = .ok (.imul, 1) := by decide +kernel
theorem dX9_drops_68 : decode cX9_drops 68 = .ok (.isub, 1) := by decide +kernel
theorem dX9_drops_69 : decode cX9_drops 69 = .ok (.baload, 1) := by decide +kernel
theorem dX9_drops_70 : decode cX9_drops 70 = .ok (.ifCond .ne 11, 3) := by decide +kernel
theorem dX9_drops_73 : decode cX9_drops 73 = .ok (.iload 5, 2) := by decide +kernel
theorem dX9_drops_75 : decode cX9_drops 75 = .ok (.iload 5, 2) := by decide +kernel
theorem dX9_drops_77 : decode cX9_drops 77 = .ok (.imul, 1) := by decide +kernel
theorem dX9_drops_78 : decode cX9_drops 78 = .ok (.goto 4, 3) := by decide +kernel
theorem dX9_drops_81 : decode cX9_drops 81 = .ok (.iload_n 3, 1) := by decide +kernel
theorem dX9_drops_82 : decode cX9_drops 82 = .ok (.istore_n 3, 1) := by decide +kernel
theorem dX9_drops_83 : decode cX9_drops 83 = .ok (.iinc 5 (-1), 3) := by decide +kernel
theorem dX9_drops_86 : decode cX9_drops 86 = .ok (.goto (-44), 3) := by decide +kernel
theorem dX9_drops_89 : decode cX9_drops 89 = .ok (.aload_n 0, 1) := by decide +kernel
theorem dX9_drops_90 : decode cX9_drops 90 = .ok (.getfield 34, 3) := by decide +kernel
theorem dX9_drops_93 : decode cX9_drops 93 = .ok (.iload 4, 2) := by decide +kernel
theorem dX9_drops_95 : decode cX9_drops 95 = .ok (.iload_n 3, 1) := by decide +kernel
theorem dX9_drops_96 : decode cX9_drops 96 = .ok (.ifCond .le 7, 3) := by decide +kernel
theorem dX9_drops_99 : decode cX9_drops 99 = .ok (.iconst 1, 1) := by decide +kernel
theorem dX9_drops_100 : decode cX9_drops 100 = .ok (.goto 4, 3) := by decide +kernel
theorem dX9_drops_103 : decode cX9_drops 103 = .ok (.iconst 0, 1) := by decide +kernel
theorem dX9_drops_104 : decode cX9_drops 104 = .ok (.bastore, 1) := by decide +kernel
theorem dX9_drops_105 : decode cX9_drops 105 = .ok (.iinc 4 1, 3) := by decide +kernel
theorem dX9_drops_108 : decode cX9_drops 108 = .ok (.goto (-79), 3) := by decide +kernel
theorem dX9_drops_111 : decode cX9_drops 111 = .ok (.iload_n 2, 1) := by decide +kernel
theorem dX9_drops_112 : decode cX9_drops 112 = .ok (.iconst 1, 1) := by decide +kernel
theorem dX9_drops_113 : decode cX9_drops 113 = .ok (.if_icmp .ne 7, 3) := by decide +kernel
theorem dX9_drops_116 : decode cX9_drops 116 = .ok (.iload_n 3, 1) := by decide +kernel
theorem dX9_drops_117 : decode cX9_drops 117 = .ok (.goto 12, 3) := by decide +kernel
theorem dX9_drops_120 : decode cX9_drops 120 = .ok (.iload_n 3, 1) := by decide +kernel
theorem dX9_drops_121 : decode cX9_drops 121 = .ok (.ifCond .le 7, 3) := by decide +kernel
theorem dX9_drops_124 : decode cX9_drops 124 = .ok (.iconst 1, 1) := by decide +kernel
theorem dX9_drops_125 : decode cX9_drops 125 = .ok (.goto 4, 3) := by decide +kernel
theorem dX9_drops_128 : decode cX9_drops 128 = .ok (.iconst 0, 1) := by decide +kernel
theorem dX9_drops_129 : decode cX9_drops 129 = .ok (.ireturn, 1) := by decide +kernel
theorem dX9_lowest_0 : decode cX9_lowest 0 = .ok (.lload_n 0, 1) := by decide +kernel
theorem dX9_lowest_1 : decode cX9_lowest 1 = .ok (.lstore 5, 2) := by decide +kernel
theorem dX9_lowest_3 : decode cX9_lowest 3 = .ok (.lload_n 2, 1) := by decide +kernel
theorem dX9_lowest_4 : decode cX9_lowest 4 = .ok (.lstore 7, 2) := by decide +kernel
theorem dX9_lowest_6 : decode cX9_lowest 6 = .ok (.lload 7, 2) := by decide +kernel
theorem dX9_lowest_8 : decode cX9_lowest 8 = .ok (.lconst 0, 1) := by decide +kernel
theorem dX9_lowest_9 : decode cX9_lowest 9 = .ok (.lcmp, 1) := by decide +kernel
theorem dX9_lowest_10 : decode cX9_lowest 10 = .ok (.ifCond .eq 21, 3) := by decide +kernel
theorem dX9_lowest_13 : decode cX9_lowest 13 = .ok (.lload 5, 2) := by decide +kernel
theorem dX9_lowest_15 : decode cX9_lowest 15 = .ok (.lload 7, 2) := by decide +kernel
theorem dX9_lowest_17 : decode cX9_lowest 17 = .ok (.lrem, 1) := by decide +kernel
theorem dX9_lowest_18 : decode cX9_lowest 18 = .ok (.lstore 9, 2) := by decide +kernel
theorem dX9_lowest_20 : decode cX9_lowest 20 = .ok (.lload 7, 2) := by decide +kernel
theorem dX9_lowest_22 : decode cX9_lowest 22 = .ok (.lstore 5, 2) := by decide +kernel
theorem dX9_lowest_24 : decode cX9_lowest 24 = .ok (.lload 9, 2) := by decide +kernel
theorem dX9_lowest_26 : decode cX9_lowest 26 = .ok (.lstore 7, 2) := by decide +kernel
theorem dX9_lowest_28 : decode cX9_lowest 28 = .ok (.goto (-22), 3) := by decide +kernel
theorem dX9_lowest_31 : decode cX9_lowest 31 = .ok (.iload 4, 2) := by decide +kernel
theorem dX9_lowest_33 : decode cX9_lowest 33 = .ok (.ifCond .ne 10, 3) := by decide +kernel
theorem dX9_lowest_36 : decode cX9_lowest 36 = .ok (.lload_n 0, 1) := by decide +kernel
theorem dX9_lowest_37 : decode cX9_lowest 37 = .ok (.lload 5, 2) := by decide +kernel
theorem dX9_lowest_39 : decode cX9_lowest 39 = .ok (.ldiv, 1) := by decide +kernel
theorem dX9_lowest_40 : decode cX9_lowest 40 = .ok (.goto 7, 3) := by decide +kernel
theorem dX9_lowest_43 : decode cX9_lowest 43 = .ok (.lload_n 2, 1) := by decide +kernel
theorem dX9_lowest_44 : decode cX9_lowest 44 = .ok (.lload 5, 2) := by decide +kernel
theorem dX9_lowest_46 : decode cX9_lowest 46 = .ok (.ldiv, 1) := by decide +kernel
theorem dX9_lowest_47 : decode cX9_lowest 47 = .ok (.lreturn, 1) := by decide +kernel
set_option maxRecDepth 20000 in
theorem ggX9_everywhere_X9_in : GoodIn wsX9_everywhere wsX9_in := goodIn_r _ [7] (by decide +kernel) (by decide +kernel)
set_option maxRecDepth 20000 in
theorem gX9_everywhere_X9_in : GoodIn wsX9_everywhere (va_wsS RX9 48 yX9_in wsX9_in) := goodIn_app (goodIn_of _ (by decide +kernel)) ggX9_everywhere_X9_in
set_option maxRecDepth 20000 in
theorem ggX9_everywhere_X9_lowest : GoodIn wsX9_everywhere wsX9_lowest := goodIn_r _ [10] (by decide +kernel) (by decide +kernel)
set_option maxRecDepth 20000 in
theorem gX9_everywhere_X9_lowest : GoodIn wsX9_everywhere (va_wsS RX9 150 yX9_lowest wsX9_lowest) := goodIn_app (goodIn_of _ (by decide +kernel)) ggX9_everywhere_X9_lowest
theorem dX9_everywhere_0 : decode cX9_everywhere 0 = .ok (.iload_n 1, 1) := by decide +kernel
theorem dX9_everywhere_1 : decode cX9_everywhere 1 = .ok (.iconst 1, 1) := by decide +kernel
theorem dX9_everywhere_2 : decode cX9_everywhere 2 = .ok (.bipush 8, 2) := by decide +kernel
theorem dX9_everywhere_4 : decode cX9_everywhere 4 = .ok (.invokestatic 48, 3) := by decide +kernel
theorem dX9_everywhere_7 : decode cX9_everywhere 7 = .ok (.ifCond .eq 32, 3) := by decide +kernel
theorem dX9_everywhere_10 : decode cX9_everywhere 10 = .ok (.iload_n 2, 1) := by decide +kernel
theorem dX9_everywhere_11 : decode cX9_everywhere 11 = .ok (.iconst 0, 1) := by decide +kernel
theorem dX9_everywhere_12 : decode cX9_everywhere 12 = .ok (.bipush 16, 2) := by decide +kernel
theorem dX9_everywhere_14 : decode cX9_everywhere 14 = .ok (.invokestatic 48, 3) := by decide +kernel
theorem dX9_everywhere_17 : decode cX9_everywhere 17 = .ok (.ifCond .eq 22, 3) := by decide +kernel
theorem dX9_everywhere_20 : decode cX9_everywhere 20 = .ok (.iload_n 3, 1) := by decide +kernel
theorem dX9_everywhere_21 : decode cX9_everywhere 21 = .ok (.iconst 0, 1) := by decide +kernel
theorem dX9_everywhere_22 : decode cX9_everywhere 22 = .ok (.iconst 1, 1) := by decide +kernel
theorem dX9_everywhere_23 : decode cX9_everywhere 23 = .ok (.invokestatic 48, 3) := by decide +kernel
theorem dX9_everywhere_26 : decode cX9_everywhere 26 = .ok (.ifCond .eq 13, 3) := by decide +kernel
theorem dX9_everywhere_29 : decode cX9_everywhere 29 = .ok (.iload 4, 2) := by decide +kernel
theorem dX9_everywhere_31 : decode cX9_everywhere 31 = .ok (.iconst 0, 1) := by decide +kernel
theorem dX9_everywhere_32 : decode cX9_everywhere 32 = .ok (.iconst 1, 1) := by decide +kernel
theorem dX9_everywhere_33 : decode cX9_everywhere 33 = .ok (.invokestatic 48, 3) := by decide +kernel
theorem dX9_everywhere_36 : decode cX9_everywhere 36 = .ok (.ifCond .ne 7, 3) := by decide +kernel
theorem dX9_everywhere_39 : decode cX9_everywhere 39 = .ok (.ldc2_w 146, 3) := by decide +kernel
theorem dX9_everywhere_42 : decode cX9_everywhere 42 = .ok (.lreturn, 1) := by decide +kernel
theorem dX9_everywhere_43 : decode cX9_everywhere 43 = .ok (.iload_n 3, 1) := by decide +kernel
theorem dX9_everywhere_44 : decode cX9_everywhere 44 = .ok (.iconst 1, 1) := by decide +kernel
theorem dX9_everywhere_45 : decode cX9_everywhere 45 = .ok (.if_icmp .ne 47, 3) := by decide +kernel
theorem dX9_everywhere_48 : decode cX9_everywhere 48 = .ok (.lconst 0, 1) := by decide +kernel
theorem dX9_everywhere_49 : decode cX9_everywhere 49 = .ok (.lstore 5, 2) := by decide +kernel
theorem dX9_everywhere_51 : decode cX9_everywhere 51 = .ok (.iconst 1, 1) := by decide +kernel
theorem dX9_everywhere_52 : decode cX9_everywhere 52 = .ok (.istore 7, 2) := by decide +kernel
theorem dX9_everywhere_54 : decode cX9_everywhere 54 = .ok (.iload 7, 2) := by decide +kernel
theorem dX9_everywhere_56 : decode cX9_everywhere 56 = .ok (.iload_n 1, 1) := by decide +kernel
theorem dX9_everywhere_57 : decode cX9_everywhere 57 = .ok (.if_icmp .gt 21, 3) := by decide +kernel
theorem dX9_everywhere_60 : decode cX9_everywhere 60 = .ok (.lload 5, 2) := by decide +kernel
theorem dX9_everywhere_62 : decode cX9_everywhere 62 = .ok (.ldc2_w 148, 3) := by decide +kernel
theorem dX9_everywhere_65 : decode cX9_everywhere 65 = .ok (.iload 7, 2) := by decide +kernel
theorem dX9_everywhere_67 : decode cX9_everywhere 67 = .ok (.i2l, 1) := by decide +kernel
theorem dX9_everywhere_68 : decode cX9_everywhere 68 = .ok (.ldiv, 1) := by decide +kernel
theorem dX9_everywhere_69 : decode cX9_everywhere 69 = .ok (.ladd, 1) := by decide +kernel
theorem dX9_everywhere_70 : decode cX9_everywhere 70 = .ok (.lstore 5, 2) := by decide +kernel
theorem dX9_everywhere_72 : decode cX9_everywhere 72 = .ok (.iinc 7 1, 3) := by decide +kernel
theorem dX9_everywhere_75 : decode cX9_everywhere 75 = .ok (.goto (-21), 3) := by decide +kernel
theorem dX9_everywhere_78 : decode cX9_everywhere 78 = .ok (.iload_n 1, 1) := by decide +kernel
theorem dX9_everywhere_79 : decode cX9_everywhere 79 = .ok (.i2l, 1) := by decide +kernel
theorem dX9_everywhere_80 : decode cX9_everywhere 80 = .ok (.lload 5, 2) := by decide +kernel
theorem dX9_everywhere_82 : decode cX9_everywhere 82 = .ok (.lmul, 1) := by decide +kernel
theorem dX9_everywhere_83 : decode cX9_everywhere 83 = .ok (.ldc2_w 148, 3) := by decide +kernel
theorem dX9_everywhere_86 : decode cX9_everywhere 86 = .ok (.iload 4, 2) := by decide +kernel
theorem dX9_everywhere_88 : decode cX9_everywhere 88 = .ok (.invokestatic 150, 3) := by decide +kernel
theorem dX9_everywhere_91 : decode cX9_everywhere 91 = .ok (.lreturn, 1) := by decide +kernel
theorem dX9_everywhere_92 : decode cX9_everywhere 92 = .ok (.lconst 1, 1) := by decide +kernel
theorem dX9_everywhere_93 : decode cX9_everywhere 93 = .ok (.lstore 5, 2) := by decide +kernel
theorem dX9_everywhere_95 : decode cX9_everywhere 95 = .ok (.iconst 0, 1) := by decide +kernel
theorem dX9_everywhere_96 : decode cX9_everywhere 96 = .ok (.istore 7, 2) := by decide +kernel
theorem dX9_everywhere_98 : decode cX9_everywhere 98 = .ok (.iload 7, 2) := by decide +kernel
theorem dX9_everywhere_100 : decode cX9_everywhere 100 = .ok (.bipush 9, 2) := by decide +kernel
theorem dX9_everywhere_102 : decode cX9_everywhere 102 = .ok (.if_icmp .ge 26, 3) := by decide +kernel
theorem dX9_everywhere_105 : decode cX9_everywhere 105 = .ok (.aload_n 0, 1) := by decide +kernel
theorem dX9_everywhere_106 : decode cX9_everywhere 106 = .ok (.getfield 38, 3) := by decide +kernel
theorem dX9_everywhere_109 : decode cX9_everywhere 109 = .ok (.iload 7, 2) := by decide +kernel
theorem dX9_everywhere_111 : decode cX9_everywhere 111 = .ok (.iload 7, 2) := by decide +kernel
theorem dX9_everywhere_113 : decode cX9_everywhere 113 = .ok (.ifCond .ne 7, 3) := by decide +kernel
theorem dX9_everywhere_116 : decode cX9_everywhere 116 = .ok (.lconst 1, 1) := by decide +kernel
theorem dX9_everywhere_117 : decode cX9_everywhere 117 = .ok (.goto 4, 3) := by decide +kernel
theorem dX9_everywhere_120 : decode cX9_everywhere 120 = .ok (.lconst 0, 1) := by decide +kernel
theorem dX9_everywhere_121 : decode cX9_everywhere 121 = .ok (.lastore, 1) := by decide +kernel
theorem dX9_everywhere_122 : decode cX9_everywhere 122 = .ok (.iinc 7 1, 3) := by decide +kernel
theorem dX9_everywhere_125 : decode cX9_everywhere 125 = .ok (.goto (-27), 3) := by decide +kernel
theorem dX9_everywhere_128 : decode cX9_everywhere 128 = .ok (.iconst 0, 1) := by decide +kernel
theorem dX9_everywhere_129 : decode cX9_everywhere 129 = .ok (.istore 7, 2) := by decide +kernel
theorem dX9_everywhere_131 : decode cX9_everywhere 131 = .ok (.iload 7, 2) := by decide +kernel
theorem dX9_everywhere_133 : decode cX9_everywhere 133 = .ok (.iload_n 2, 1) := by decide +kernel
theorem dX9_everywhere_134 : decode cX9_everywhere 134 = .ok (.if_icmp .ge 86, 3) := by decide +kernel
theorem dX9_everywhere_137 : decode cX9_everywhere 137 = .ok (.lload 5, 2) := by decide +kernel
theorem dX9_everywhere_139 : decode cX9_everywhere 139 = .ok (.iload_n 1, 1) := by decide +kernel
theorem dX9_everywhere_140 : decode cX9_everywhere 140 = .ok (.i2l, 1) := by decide +kernel
theorem dX9_everywhere_141 : decode cX9_everywhere 141 = .ok (.lmul, 1) := by decide +kernel
theorem dX9_everywhere_142 : decode cX9_everywhere 142 = .ok (.lstore 5, 2) := by decide +kernel
theorem dX9_everywhere_144 : decode cX9_everywhere 144 = .ok (.bipush 8, 2) := by decide +kernel
theorem dX9_everywhere_146 : decode cX9_everywhere 146 = .ok (.istore 8, 2) := by decide +kernel
theorem dX9_everywhere_148 : decode cX9_everywhere 148 = .ok (.iload 8, 2) := by decide +kernel
theorem dX9_everywhere_150 : decode cX9_everywhere 150 = .ok (.ifCond .lt 64, 3) := by decide +kernel
theorem dX9_everywhere_153 : decode cX9_everywhere 153 = .ok (.aload_n 0, 1) := by decide +kernel
theorem dX9_everywhere_154 : decode cX9_everywhere 154 = .ok (.getfield 38, 3) := by decide +kernel
theorem dX9_everywhere_157 : decode cX9_everywhere 157 = .ok (.iload 8, 2) := by decide +kernel
theorem dX9_everywhere_159 : decode cX9_everywhere 159 = .ok (.iload 8, 2) := by decide +kernel
theorem dX9_everywhere_161 : decode cX9_everywhere 161 = .ok (.iload_n 1, 1) := by decide +kernel
theorem dX9_everywhere_162 : decode cX9_everywhere 162 = .ok (.if_icmp .le 7, 3) := by decide +kernel
theorem dX9_everywhere_165 : decode cX9_everywhere 165 = .ok (.lconst 0, 1) := by decide +kernel
theorem dX9_everywhere_166 : decode cX9_everywhere 166 = .ok (.goto 41, 3) := by decide +kernel
theorem dX9_everywhere_169 : decode cX9_everywhere 169 = .ok (.aload_n 0, 1) := by decide +kernel
theorem dX9_everywhere_170 : decode cX9_everywhere 170 = .ok (.getfield 38, 3) := by decide +kernel
theorem dX9_everywhere_173 : decode cX9_everywhere 173 = .ok (.iload 8, 2) := by decide +kernel
theorem dX9_everywhere_175 : decode cX9_everywhere 175 = .ok (.laload, 1) := by decide +kernel
theorem dX9_everywhere_176 : decode cX9_everywhere 176 = .ok (.iload 8, 2) := by decide +kernel
theorem dX9_everywhere_178 : decode cX9_everywhere 178 = .ok (.i2l, 1) := by decide +kernel
theorem dX9_everywhere_179 : decode cX9_everywhere 179 = .ok (.lmul, 1) := by decide +kernel
theorem dX9_everywhere_180 : decode cX9_everywhere 180 = .ok (.iload 8, 2) := by decide +kernel
theorem dX9_everywhere_182 : decode cX9_everywhere 182 = .ok (.ifCond .le 23, 3) := by decide +kernel
theorem dX9_everywhere_185 : decode cX9_everywhere 185 = .ok (.aload_n 0, 1) := by decide +kernel
theorem dX9_everywhere_186 : decode cX9_everywhere 186 = .ok (.getfield 38, 3) := by decide +kernel
theorem dX9_everywhere_189 : decode cX9_everywhere 189 = .ok (.iload 8, 2) := by decide +kernel
theorem dX9_everywhere_191 : decode cX9_everywhere 191 = .ok (.iconst 1, 1) := by decide +kernel
theorem dX9_everywhere_192 : decode cX9_everywhere 192 = .ok (.isub, 1) := by decide +kernel
theorem dX9_everywhere_193 : decode cX9_everywhere 193 = .ok (.laload, 1) := by decide +kernel
theorem dX9_everywhere_194 : decode cX9_everywhere 194 = .ok (.iload_n 1, 1) := by decide +kernel
theorem dX9_everywhere_195 : decode cX9_everywhere 195 = .ok (.iload 8, 2) := by decide +kernel
theorem dX9_everywhere_197 : decode cX9_everywhere 197 = .ok (.isub, 1) := by decide +kernel
theorem dX9_everywhere_198 : decode cX9_everywhere 198 = .ok (.iconst 1, 1) := by decide +kernel
theorem dX9_everywhere_199 : decode cX9_everywhere 199 = .ok (.iadd, 1) := by decide +kernel
theorem dX9_everywhere_200 : decode cX9_everywhere 200 = .ok (.i2l, 1) := by decide +kernel
theorem dX9_everywhere_201 : decode cX9_everywhere 201 = .ok (.lmul, 1) := by decide +kernel
theorem dX9_everywhere_202 : decode cX9_everywhere 202 = .ok (.goto 4, 3) := by decide +kernel
theorem dX9_everywhere_205 : decode cX9_everywhere 205 = .ok (.lconst 0, 1) := by decide +kernel
theorem dX9_everywhere_206 : decode cX9_everywhere 206 = .ok (.ladd, 1) := by decide +kernel
theorem dX9_everywhere_207 : decode cX9_everywhere 207 = .ok (.lastore, 1) := by decide +kernel
theorem dX9_everywhere_208 : decode cX9_everywhere 208 = .ok (.iinc 8 (-1), 3) := by decide +kernel
theorem dX9_everywhere_211 : decode cX9_everywhere 211 = .ok (.goto (-63), 3) := by decide +kernel
theorem dX9_everywhere_214 : decode cX9_everywhere 214 = .ok (.iinc 7 1, 3) := by decide +kernel
theorem dX9_everywhere_217 : decode cX9_everywhere 217 = .ok (.goto (-86), 3) := by decide +kernel
theorem dX9_everywhere_220 : decode cX9_everywhere 220 = .ok (.aload_n 0, 1) := by decide +kernel
theorem dX9_everywhere_221 : decode cX9_everywhere 221 = .ok (.getfield 38, 3) := by decide +kernel
theorem dX9_everywhere_224 : decode cX9_everywhere 224 = .ok (.iload_n 1, 1) := by decide +kernel
theorem dX9_everywhere_225 : decode cX9_everywhere 225 = .ok (.laload, 1) := by decide +kernel
theorem dX9_everywhere_226 : decode cX9_everywhere 226 = .ok (.lload 5, 2) := by decide +kernel
theorem dX9_everywhere_228 : decode cX9_everywhere 228 = .ok (.iload 4, 2) := by decide +kernel
theorem dX9_everywhere_230 : decode cX9_everywhere 230 = .ok (.invokestatic 150, 3) := by decide +kernel
theorem dX9_everywhere_233 : decode cX9_everywhere 233 = .ok (.lreturn, 1) := by decide +kernel
set_option maxRecDepth 20000 in
theorem ggX9_year_X9_in : GoodIn wsX9_year wsX9_in := goodIn_r _ [7] (by decide +kernel) (by decide +kernel)
set_option maxRecDepth 20000 in
theorem gX9_year_X9_in : GoodIn wsX9_year (va_wsS RX9 48 yX9_in wsX9_in) := goodIn_app (goodIn_of _ (by decide +kernel)) ggX9_year_X9_in
set_option maxRecDepth 20000 in
theorem ggX9_year_X9_asNow : GoodIn wsX9_year wsX9_asNow := goodIn_r _ [11, 3, 12, 13, 14, 65, 66, 67, 68, 69, 70, 71, 72, 73, 74, 75, 76, 77, 78, 79, 80, 81, 82, 83] (by decide +kernel) (by decide +kernel)
set_option maxRecDepth 20000 in
theorem gX9_year_X9_asNow : GoodIn wsX9_year (wsV RX9 94 RX9 yX9_asNow wsX9_asNow) := goodIn_app (goodIn_of _ (by decide +kernel)) ggX9_year_X9_asNow
set_option maxRecDepth 20000 in
theorem ggX9_year_X9_oil : GoodIn wsX9_year wsX9_oil := goodIn_r _ [18, 3, 19, 20, 21, 6, 22, 23, 4, 5, 7, 24, 25, 26, 65, 66, 67, 68, 69, 70, 71, 72, 73, 74, 75, 76, 77, 78, 79, 80, 81, 82, 83] (by decide +kernel) (by decide +kernel)
set_option maxRecDepth 20000 in
theorem gX9_year_X9_oil : GoodIn wsX9_year (wsV RX9 112 RX9 yX9_oil wsX9_oil) := goodIn_app (goodIn_of _ (by decide +kernel)) ggX9_year_X9_oil
set_option maxRecDepth 20000 in
theorem ggX9_year_X9_wire : GoodIn wsX9_year wsX9_wire := goodIn_r _ [30, 3, 19, 20, 21, 6, 22, 23, 4, 5, 7, 24, 25, 26, 65, 66, 67, 68, 69, 70, 71, 72, 73, 74, 75, 76, 77, 78, 79, 80, 81, 82, 83] (by decide +kernel) (by decide +kernel)
set_option maxRecDepth 20000 in
theorem gX9_year_X9_wire : GoodIn wsX9_year (wsV RX9 115 RX9 yX9_wire wsX9_wire) := goodIn_app (goodIn_of _ (by decide +kernel)) ggX9_year_X9_wire
set_option maxRecDepth 20000 in
theorem ggX9_year_X9_hand : GoodIn wsX9_year wsX9_hand := goodIn_r _ [34, 3, 19, 20, 21, 6, 22, 23, 4, 5, 7, 24, 25, 26, 65, 66, 67, 68, 69, 70, 71, 72, 73, 74, 75, 76, 77, 78, 79, 80, 81, 82, 83] (by decide +kernel) (by decide +kernel)
set_option maxRecDepth 20000 in
theorem gX9_year_X9_hand : GoodIn wsX9_year (wsV RX9 118 RX9 yX9_hand wsX9_hand) := goodIn_app (goodIn_of _ (by decide +kernel)) ggX9_year_X9_hand
set_option maxRecDepth 20000 in
theorem ggX9_year_X9_blow : GoodIn wsX9_year wsX9_blow := goodIn_r _ [38, 3, 65, 66, 67, 68, 69, 70, 71, 72, 73, 74, 75, 76, 77, 78, 79, 80, 81, 82, 83] (by decide +kernel) (by decide +kernel)
set_option maxRecDepth 20000 in
theorem gX9_year_X9_blow : GoodIn wsX9_year (wsV RX9 106 RX9 yX9_blow wsX9_blow) := goodIn_app (goodIn_of _ (by decide +kernel)) ggX9_year_X9_blow
set_option maxRecDepth 20000 in
theorem ggX9_year_X9_vote : GoodIn wsX9_year wsX9_vote := goodIn_r _ [42, 23, 3, 43, 44, 45, 6, 46, 47, 48, 49, 50, 19, 20, 21, 22, 4, 5, 7, 24, 25, 26, 51, 52, 53, 54, 55, 56, 65, 66, 67, 68, 69, 70, 71, 72, 73, 74, 75, 76, 77, 78, 79, 80, 81, 82, 83] (by decide +kernel) (by decide +kernel)
set_option maxRecDepth 20000 in
theorem gX9_year_X9_vote : GoodIn wsX9_year (wsV RX9 109 RX9 yX9_vote wsX9_vote) := goodIn_app (goodIn_of _ (by decide +kernel)) ggX9_year_X9_vote
set_option maxRecDepth 20000 in
theorem ggX9_year_X9_endHour : GoodIn wsX9_year wsX9_endHour := goodIn_r _ [60, 3, 61, 62, 63, 6, 64, 19, 20, 21, 22, 23, 4, 5, 7, 24, 25, 26, 65, 66, 67, 68, 69, 70, 71, 72, 73, 74, 75, 76, 77, 78, 79, 80, 81, 82, 83] (by decide +kernel) (by decide +kernel)
set_option maxRecDepth 20000 in
theorem gX9_year_X9_endHour : GoodIn wsX9_year (wsV RX9 100 RX9 yX9_endHour wsX9_endHour) := goodIn_app (goodIn_of _ (by decide +kernel)) ggX9_year_X9_endHour
set_option maxRecDepth 20000 in
theorem ggX9_year_X9_isThere : GoodIn wsX9_year wsX9_isThere := goodIn_r _ [22, 23, 4, 5, 6, 7, 24, 25, 26, 65, 66, 67, 68, 69, 70, 71, 72, 73, 74, 75, 76, 77, 78, 79, 80, 81, 82, 83] (by decide +kernel) (by decide +kernel)
set_option maxRecDepth 20000 in
theorem gX9_year_X9_isThere : GoodIn wsX9_year (wsV RX9 77 RX9 yX9_isThere wsX9_isThere) := goodIn_app (goodIn_of _ (by decide +kernel)) ggX9_year_X9_isThere
set_option maxRecDepth 20000 in
theorem ggX9_year_X9_bits : GoodIn wsX9_year wsX9_bits := goodIn_r _ [56] (by decide +kernel) (by decide +kernel)
set_option maxRecDepth 20000 in
theorem gX9_year_X9_bits : GoodIn wsX9_year (va_wsS RX9 60 yX9_bits wsX9_bits) := goodIn_app (goodIn_of _ (by decide +kernel)) ggX9_year_X9_bits
theorem dX9_year_0 : decode cX9_year 0 = .ok (.iload_n 1, 1) := by decide +kernel
theorem dX9_year_1 : decode cX9_year 1 = .ok (.iconst 0, 1) := by decide +kernel
theorem dX9_year_2 : decode cX9_year 2 = .ok (.sipush 9999, 3) := by decide +kernel
theorem dX9_year_5 : decode cX9_year 5 = .ok (.invokestatic 48, 3) := by decide +kernel
theorem dX9_year_8 : decode cX9_year 8 = .ok (.ifCond .eq 22, 3) := by decide +kernel
theorem dX9_year_11 : decode cX9_year 11 = .ok (.iload_n 2, 1) := by decide +kernel
theorem dX9_year_12 : decode cX9_year 12 = .ok (.iconst 1, 1) := by decide +kernel
theorem dX9_year_13 : decode cX9_year 13 = .ok (.bipush 99, 2) := by decide +kernel
theorem dX9_year_15 : decode cX9_year 15 = .ok (.invokestatic 48, 3) := by decide +kernel
theorem dX9_year_18 : decode cX9_year 18 = .ok (.ifCond .eq 12, 3) := by decide +kernel
theorem dX9_year_21 : decode cX9_year 21 = .ok (.iload_n 3, 1) := by decide +kernel
theorem dX9_year_22 : decode cX9_year 22 = .ok (.iconst 0, 1) := by decide +kernel
theorem dX9_year_23 : decode cX9_year 23 = .ok (.iconst 2, 1) := by decide +kernel
theorem dX9_year_24 : decode cX9_year 24 = .ok (.invokestatic 48, 3) := by decide +kernel
theorem dX9_year_27 : decode cX9_year 27 = .ok (.ifCond .ne 6, 3) := by decide +kernel
theorem dX9_year_30 : decode cX9_year 30 = .ok (.bipush (-2), 2) := by decide +kernel
theorem dX9_year_32 : decode cX9_year 32 = .ok (.ireturn, 1) := by decide +kernel
theorem dX9_year_33 : decode cX9_year 33 = .ok (.aload_n 0, 1) := by decide +kernel
theorem dX9_year_34 : decode cX9_year 34 = .ok (.invokevirtual 94, 3) := by decide +kernel
theorem dX9_year_37 : decode cX9_year 37 = .ok (.iload_n 1, 1) := by decide +kernel
theorem dX9_year_38 : decode cX9_year 38 = .ok (.istore 4, 2) := by decide +kernel
theorem dX9_year_40 : decode cX9_year 40 = .ok (.iconst 0, 1) := by decide +kernel
theorem dX9_year_41 : decode cX9_year 41 = .ok (.istore 5, 2) := by decide +kernel
theorem dX9_year_43 : decode cX9_year 43 = .ok (.iload 5, 2) := by decide +kernel
theorem dX9_year_45 : decode cX9_year 45 = .ok (.iload_n 2, 1) := by decide +kernel
theorem dX9_year_46 : decode cX9_year 46 = .ok (.if_icmp .ge 164, 3) := by decide +kernel
theorem dX9_year_49 : decode cX9_year 49 = .ok (.bipush 75, 2) := by decide +kernel
theorem dX9_year_51 : decode cX9_year 51 = .ok (.iload 4, 2) := by decide +kernel
theorem dX9_year_53 : decode cX9_year 53 = .ok (.imul, 1) := by decide +kernel
theorem dX9_year_54 : decode cX9_year 54 = .ok (.bipush 74, 2) := by decide +kernel
theorem dX9_year_56 : decode cX9_year 56 = .ok (.iadd, 1) := by decide +kernel
theorem dX9_year_57 : decode cX9_year 57 = .ok (.ldc 154, 2) := by decide +kernel
theorem dX9_year_59 : decode cX9_year 59 = .ok (.irem, 1) := by decide +kernel
theorem dX9_year_60 : decode cX9_year 60 = .ok (.istore 4, 2) := by decide +kernel
theorem dX9_year_62 : decode cX9_year 62 = .ok (.iload 4, 2) := by decide +kernel
theorem dX9_year_64 : decode cX9_year 64 = .ok (.bipush 7, 2) := by decide +kernel
theorem dX9_year_66 : decode cX9_year 66 = .ok (.irem, 1) := by decide +kernel
theorem dX9_year_67 : decode cX9_year 67 = .ok (.istore 6, 2) := by decide +kernel
theorem dX9_year_69 : decode cX9_year 69 = .ok (.iload 4, 2) := by decide +kernel
theorem dX9_year_71 : decode cX9_year 71 = .ok (.bipush 56, 2) := by decide +kernel
theorem dX9_year_73 : decode cX9_year 73 = .ok (.idiv, 1) := by decide +kernel
theorem dX9_year_74 : decode cX9_year 74 = .ok (.istore 7, 2) := by decide +kernel
theorem dX9_year_76 : decode cX9_year 76 = .ok (.iload 4, 2) := by decide +kernel
theorem dX9_year_78 : decode cX9_year 78 = .ok (.bipush 7, 2) := by decide +kernel
theorem dX9_year_80 : decode cX9_year 80 = .ok (.idiv, 1) := by decide +kernel
theorem dX9_year_81 : decode cX9_year 81 = .ok (.bipush 8, 2) := by decide +kernel
theorem dX9_year_83 : decode cX9_year 83 = .ok (.irem, 1) := by decide +kernel
theorem dX9_year_84 : decode cX9_year 84 = .ok (.tableswitch 112 0 4 #[36, 49, 62, 80, 96], 36) := by decide +kernel
theorem dX9_year_120 : decode cX9_year 120 = .ok (.aload_n 0, 1) := by decide +kernel
theorem dX9_year_121 : decode cX9_year 121 = .ok (.aload_n 0, 1) := by decide +kernel
theorem dX9_year_122 : decode cX9_year 122 = .ok (.iload 6, 2) := by decide +kernel
theorem dX9_year_124 : decode cX9_year 124 = .ok (.invokevirtual 112, 3) := by decide +kernel
theorem dX9_year_127 : decode cX9_year 127 = .ok (.putfield 103, 3) := by decide +kernel
theorem dX9_year_130 : decode cX9_year 130 = .ok (.goto 74, 3) := by decide +kernel
theorem dX9_year_133 : decode cX9_year 133 = .ok (.aload_n 0, 1) := by decide +kernel
theorem dX9_year_134 : decode cX9_year 134 = .ok (.aload_n 0, 1) := by decide +kernel
theorem dX9_year_135 : decode cX9_year 135 = .ok (.iload 6, 2) := by decide +kernel
theorem dX9_year_137 : decode cX9_year 137 = .ok (.invokevirtual 115, 3) := by decide +kernel
theorem dX9_year_140 : decode cX9_year 140 = .ok (.putfield 103, 3) := by decide +kernel
theorem dX9_year_143 : decode cX9_year 143 = .ok (.goto 61, 3) := by decide +kernel
theorem dX9_year_146 : decode cX9_year 146 = .ok (.aload_n 0, 1) := by decide +kernel
theorem dX9_year_147 : decode cX9_year 147 = .ok (.aload_n 0, 1) := by decide +kernel
theorem dX9_year_148 : decode cX9_year 148 = .ok (.iload 6, 2) := by decide +kernel
theorem dX9_year_150 : decode cX9_year 150 = .ok (.iload 7, 2) := by decide +kernel
theorem dX9_year_152 : decode cX9_year 152 = .ok (.bipush 8, 2) := by decide +kernel
theorem dX9_year_154 : decode cX9_year 154 = .ok (.irem, 1) := by decide +kernel
theorem dX9_year_155 : decode cX9_year 155 = .ok (.invokevirtual 118, 3) := by decide +kernel
theorem dX9_year_158 : decode cX9_year 158 = .ok (.putfield 103, 3) := by decide +kernel
theorem dX9_year_161 : decode cX9_year 161 = .ok (.goto 43, 3) := by decide +kernel
theorem dX9_year_164 : decode cX9_year 164 = .ok (.aload_n 0, 1) := by decide +kernel
theorem dX9_year_165 : decode cX9_year 165 = .ok (.aload_n 0, 1) := by decide +kernel
theorem dX9_year_166 : decode cX9_year 166 = .ok (.iload 7, 2) := by decide +kernel
theorem dX9_year_168 : decode cX9_year 168 = .ok (.bipush 8, 2) := by decide +kernel
theorem dX9_year_170 : decode cX9_year 170 = .ok (.irem, 1) := by decide +kernel
theorem dX9_year_171 : decode cX9_year 171 = .ok (.invokevirtual 106, 3) := by decide +kernel
theorem dX9_year_174 : decode cX9_year 174 = .ok (.putfield 103, 3) := by decide +kernel
theorem dX9_year_177 : decode cX9_year 177 = .ok (.goto 27, 3) := by decide +kernel
theorem dX9_year_180 : decode cX9_year 180 = .ok (.aload_n 0, 1) := by decide +kernel
theorem dX9_year_181 : decode cX9_year 181 = .ok (.aload_n 0, 1) := by decide +kernel
theorem dX9_year_182 : decode cX9_year 182 = .ok (.iload 7, 2) := by decide +kernel
theorem dX9_year_184 : decode cX9_year 184 = .ok (.bipush 8, 2) := by decide +kernel
theorem dX9_year_186 : decode cX9_year 186 = .ok (.irem, 1) := by decide +kernel
theorem dX9_year_187 : decode cX9_year 187 = .ok (.invokevirtual 109, 3) := by decide +kernel
theorem dX9_year_190 : decode cX9_year 190 = .ok (.putfield 103, 3) := by decide +kernel
theorem dX9_year_193 : decode cX9_year 193 = .ok (.goto 11, 3) := by decide +kernel
theorem dX9_year_196 : decode cX9_year 196 = .ok (.aload_n 0, 1) := by decide +kernel
theorem dX9_year_197 : decode cX9_year 197 = .ok (.aload_n 0, 1) := by decide +kernel
theorem dX9_year_198 : decode cX9_year 198 = .ok (.invokevirtual 100, 3) := by decide +kernel
theorem dX9_year_201 : decode cX9_year 201 = .ok (.putfield 103, 3) := by decide +kernel
theorem dX9_year_204 : decode cX9_year 204 = .ok (.iinc 5 1, 3) := by decide +kernel
theorem dX9_year_207 : decode cX9_year 207 = .ok (.goto (-164), 3) := by decide +kernel
theorem dX9_year_210 : decode cX9_year 210 = .ok (.iconst 0, 1) := by decide +kernel
theorem dX9_year_211 : decode cX9_year 211 = .ok (.istore 5, 2) := by decide +kernel
theorem dX9_year_213 : decode cX9_year 213 = .ok (.iconst 0, 1) := by decide +kernel
theorem dX9_year_214 : decode cX9_year 214 = .ok (.istore 6, 2) := by decide +kernel
theorem dX9_year_216 : decode cX9_year 216 = .ok (.iload 6, 2) := by decide +kernel
theorem dX9_year_218 : decode cX9_year 218 = .ok (.bipush 7, 2) := by decide +kernel
theorem dX9_year_220 : decode cX9_year 220 = .ok (.if_icmp .ge 37, 3) := by decide +kernel
theorem dX9_year_223 : decode cX9_year 223 = .ok (.iload 5, 2) := by decide +kernel
theorem dX9_year_225 : decode cX9_year 225 = .ok (.aload_n 0, 1) := by decide +kernel
theorem dX9_year_226 : decode cX9_year 226 = .ok (.iload 6, 2) := by decide +kernel
theorem dX9_year_228 : decode cX9_year 228 = .ok (.invokevirtual 77, 3) := by decide +kernel
theorem dX9_year_231 : decode cX9_year 231 = .ok (.ifCond .eq 16, 3) := by decide +kernel
theorem dX9_year_234 : decode cX9_year 234 = .ok (.aload_n 0, 1) := by decide +kernel
theorem dX9_year_235 : decode cX9_year 235 = .ok (.getfield 13, 3) := by decide +kernel
theorem dX9_year_238 : decode cX9_year 238 = .ok (.bipush 7, 2) := by decide +kernel
theorem dX9_year_240 : decode cX9_year 240 = .ok (.iload 6, 2) := by decide +kernel
theorem dX9_year_242 : decode cX9_year 242 = .ok (.iadd, 1) := by decide +kernel
theorem dX9_year_243 : decode cX9_year 243 = .ok (.iaload, 1) := by decide +kernel
theorem dX9_year_244 : decode cX9_year 244 = .ok (.goto 4, 3) := by decide +kernel
theorem dX9_year_247 : decode cX9_year 247 = .ok (.iconst 0, 1) := by decide +kernel
theorem dX9_year_248 : decode cX9_year 248 = .ok (.iadd, 1) := by decide +kernel
theorem dX9_year_249 : decode cX9_year 249 = .ok (.istore 5, 2) := by decide +kernel
theorem dX9_year_251 : decode cX9_year 251 = .ok (.iinc 6 1, 3) := by decide +kernel
theorem dX9_year_254 : decode cX9_year 254 = .ok (.goto (-38), 3) := by decide +kernel
theorem dX9_year_257 : decode cX9_year 257 = .ok (.iload_n 3, 1) := by decide +kernel
theorem dX9_year_258 : decode cX9_year 258 = .ok (.ifCond .ne 16, 3) := by decide +kernel
theorem dX9_year_261 : decode cX9_year 261 = .ok (.aload_n 0, 1) := by decide +kernel
theorem dX9_year_262 : decode cX9_year 262 = .ok (.getfield 13, 3) := by decide +kernel
theorem dX9_year_265 : decode cX9_year 265 = .ok (.bipush 15, 2) := by decide +kernel
theorem dX9_year_267 : decode cX9_year 267 = .ok (.iaload, 1) := by decide +kernel
theorem dX9_year_268 : decode cX9_year 268 = .ok (.invokestatic 60, 3) := by decide +kernel
theorem dX9_year_271 : decode cX9_year 271 = .ok (.goto 20, 3) := by decide +kernel
theorem dX9_year_274 : decode cX9_year 274 = .ok (.iload_n 3, 1) := by decide +kernel
theorem dX9_year_275 : decode cX9_year 275 = .ok (.iconst 1, 1) := by decide +kernel
theorem dX9_year_276 : decode cX9_year 276 = .ok (.if_icmp .ne 8, 3) := by decide +kernel
theorem dX9_year_279 : decode cX9_year 279 = .ok (.iload 5, 2) := by decide +kernel
theorem dX9_year_281 : decode cX9_year 281 = .ok (.goto 10, 3) := by decide +kernel
theorem dX9_year_284 : decode cX9_year 284 = .ok (.aload_n 0, 1) := by decide +kernel
theorem dX9_year_285 : decode cX9_year 285 = .ok (.getfield 13, 3) := by decide +kernel
theorem dX9_year_288 : decode cX9_year 288 = .ok (.bipush 17, 2) := by decide +kernel
theorem dX9_year_290 : decode cX9_year 290 = .ok (.iaload, 1) := by decide +kernel
theorem dX9_year_291 : decode cX9_year 291 = .ok (.ireturn, 1) := by decide +kernel
set_option maxRecDepth 20000 in
theorem ggX9_image_X9_in : GoodIn wsX9_image wsX9_in := goodIn_r _ [11] (by decide +kernel) (by decide +kernel)
set_option maxRecDepth 20000 in
theorem gX9_image_X9_in : GoodIn wsX9_image (va_wsS RX9 48 yX9_in wsX9_in) := goodIn_app (goodIn_of _ (by decide +kernel)) ggX9_image_X9_in
theorem dX9_image_0 : decode cX9_image 0 = .ok (.iload_n 1, 1) := by decide +kernel
theorem dX9_image_1 : decode cX9_image 1 = .ok (.iconst 0, 1) := by decide +kernel
theorem dX9_image_2 : decode cX9_image 2 = .ok (.iconst 1, 1) := by decide +kernel
theorem dX9_image_3 : decode cX9_image 3 = .ok (.invokestatic 48, 3) := by decide +kernel
theorem dX9_image_6 : decode cX9_image 6 = .ok (.ifCond .ne 6, 3) := by decide +kernel
theorem dX9_image_9 : decode cX9_image 9 = .ok (.bipush (-2), 2) := by decide +kernel
theorem dX9_image_11 : decode cX9_image 11 = .ok (.ireturn, 1) := by decide +kernel
theorem dX9_image_12 : decode cX9_image 12 = .ok (.bipush 50, 2) := by decide +kernel
theorem dX9_image_14 : decode cX9_image 14 = .ok (.iload_n 1, 1) := by decide +kernel
theorem dX9_image_15 : decode cX9_image 15 = .ok (.imul, 1) := by decide +kernel
theorem dX9_image_16 : decode cX9_image 16 = .ok (.istore_n 2, 1) := by decide +kernel
theorem dX9_image_17 : decode cX9_image 17 = .ok (.iconst 0, 1) := by decide +kernel
theorem dX9_image_18 : decode cX9_image 18 = .ok (.istore_n 3, 1) := by decide +kernel
theorem dX9_image_19 : decode cX9_image 19 = .ok (.iload_n 3, 1) := by decide +kernel
theorem dX9_image_20 : decode cX9_image 20 = .ok (.bipush 19, 2) := by decide +kernel
theorem dX9_image_22 : decode cX9_image 22 = .ok (.if_icmp .ge 23, 3) := by decide +kernel
theorem dX9_image_25 : decode cX9_image 25 = .ok (.aload_n 0, 1) := by decide +kernel
theorem dX9_image_26 : decode cX9_image 26 = .ok (.getfield 42, 3) := by decide +kernel
theorem dX9_image_29 : decode cX9_image 29 = .ok (.iload_n 2, 1) := by decide +kernel
theorem dX9_image_30 : decode cX9_image 30 = .ok (.iload_n 3, 1) := by decide +kernel
theorem dX9_image_31 : decode cX9_image 31 = .ok (.iadd, 1) := by decide +kernel
theorem dX9_image_32 : decode cX9_image 32 = .ok (.aload_n 0, 1) := by decide +kernel
theorem dX9_image_33 : decode cX9_image 33 = .ok (.getfield 7, 3) := by decide +kernel
theorem dX9_image_36 : decode cX9_image 36 = .ok (.iload_n 3, 1) := by decide +kernel
theorem dX9_image_37 : decode cX9_image 37 = .ok (.iaload, 1) := by decide +kernel
theorem dX9_image_38 : decode cX9_image 38 = .ok (.iastore, 1) := by decide +kernel
theorem dX9_image_39 : decode cX9_image 39 = .ok (.iinc 3 1, 3) := by decide +kernel
theorem dX9_image_42 : decode cX9_image 42 = .ok (.goto (-23), 3) := by decide +kernel
theorem dX9_image_45 : decode cX9_image 45 = .ok (.iconst 0, 1) := by decide +kernel
theorem dX9_image_46 : decode cX9_image 46 = .ok (.istore_n 3, 1) := by decide +kernel
theorem dX9_image_47 : decode cX9_image 47 = .ok (.iload_n 3, 1) := by decide +kernel
theorem dX9_image_48 : decode cX9_image 48 = .ok (.bipush 7, 2) := by decide +kernel
theorem dX9_image_50 : decode cX9_image 50 = .ok (.if_icmp .ge 26, 3) := by decide +kernel
theorem dX9_image_53 : decode cX9_image 53 = .ok (.aload_n 0, 1) := by decide +kernel
theorem dX9_image_54 : decode cX9_image 54 = .ok (.getfield 42, 3) := by decide +kernel
theorem dX9_image_57 : decode cX9_image 57 = .ok (.iload_n 2, 1) := by decide +kernel
theorem dX9_image_58 : decode cX9_image 58 = .ok (.bipush 19, 2) := by decide +kernel
theorem dX9_image_60 : decode cX9_image 60 = .ok (.iadd, 1) := by decide +kernel
theorem dX9_image_61 : decode cX9_image 61 = .ok (.iload_n 3, 1) := by decide +kernel
theorem dX9_image_62 : decode cX9_image 62 = .ok (.iadd, 1) := by decide +kernel
theorem dX9_image_63 : decode cX9_image 63 = .ok (.aload_n 0, 1) := by decide +kernel
theorem dX9_image_64 : decode cX9_image 64 = .ok (.getfield 16, 3) := by decide +kernel
theorem dX9_image_67 : decode cX9_image 67 = .ok (.iload_n 3, 1) := by decide +kernel
theorem dX9_image_68 : decode cX9_image 68 = .ok (.iaload, 1) := by decide +kernel
theorem dX9_image_69 : decode cX9_image 69 = .ok (.iastore, 1) := by decide +kernel
theorem dX9_image_70 : decode cX9_image 70 = .ok (.iinc 3 1, 3) := by decide +kernel
theorem dX9_image_73 : decode cX9_image 73 = .ok (.goto (-26), 3) := by decide +kernel
theorem dX9_image_76 : decode cX9_image 76 = .ok (.iconst 0, 1) := by decide +kernel
theorem dX9_image_77 : decode cX9_image 77 = .ok (.istore_n 3, 1) := by decide +kernel
theorem dX9_image_78 : decode cX9_image 78 = .ok (.iload_n 3, 1) := by decide +kernel
theorem dX9_image_79 : decode cX9_image 79 = .ok (.bipush 16, 2) := by decide +kernel
theorem dX9_image_81 : decode cX9_image 81 = .ok (.if_icmp .ge 26, 3) := by decide +kernel
theorem dX9_image_84 : decode cX9_image 84 = .ok (.aload_n 0, 1) := by decide +kernel
theorem dX9_image_85 : decode cX9_image 85 = .ok (.getfield 42, 3) := by decide +kernel
theorem dX9_image_88 : decode cX9_image 88 = .ok (.iload_n 2, 1) := by decide +kernel
theorem dX9_image_89 : decode cX9_image 89 = .ok (.bipush 26, 2) := by decide +kernel
theorem dX9_image_91 : decode cX9_image 91 = .ok (.iadd, 1) := by decide +kernel
theorem dX9_image_92 : decode cX9_image 92 = .ok (.iload_n 3, 1) := by decide +kernel
theorem dX9_image_93 : decode cX9_image 93 = .ok (.iadd, 1) := by decide +kernel
theorem dX9_image_94 : decode cX9_image 94 = .ok (.aload_n 0, 1) := by decide +kernel
theorem dX9_image_95 : decode cX9_image 95 = .ok (.getfield 19, 3) := by decide +kernel
theorem dX9_image_98 : decode cX9_image 98 = .ok (.iload_n 3, 1) := by decide +kernel
theorem dX9_image_99 : decode cX9_image 99 = .ok (.iaload, 1) := by decide +kernel
theorem dX9_image_100 : decode cX9_image 100 = .ok (.iastore, 1) := by decide +kernel
theorem dX9_image_101 : decode cX9_image 101 = .ok (.iinc 3 1, 3) := by decide +kernel
theorem dX9_image_104 : decode cX9_image 104 = .ok (.goto (-26), 3) := by decide +kernel
theorem dX9_image_107 : decode cX9_image 107 = .ok (.aload_n 0, 1) := by decide +kernel
theorem dX9_image_108 : decode cX9_image 108 = .ok (.getfield 42, 3) := by decide +kernel
theorem dX9_image_111 : decode cX9_image 111 = .ok (.iload_n 2, 1) := by decide +kernel
theorem dX9_image_112 : decode cX9_image 112 = .ok (.bipush 45, 2) := by decide +kernel
theorem dX9_image_114 : decode cX9_image 114 = .ok (.iadd, 1) := by decide +kernel
theorem dX9_image_115 : decode cX9_image 115 = .ok (.aload_n 0, 1) := by decide +kernel
theorem dX9_image_116 : decode cX9_image 116 = .ok (.getfield 52, 3) := by decide +kernel
theorem dX9_image_119 : decode cX9_image 119 = .ok (.iastore, 1) := by decide +kernel
theorem dX9_image_120 : decode cX9_image 120 = .ok (.aload_n 0, 1) := by decide +kernel
theorem dX9_image_121 : decode cX9_image 121 = .ok (.getfield 42, 3) := by decide +kernel
theorem dX9_image_124 : decode cX9_image 124 = .ok (.iload_n 2, 1) := by decide +kernel
theorem dX9_image_125 : decode cX9_image 125 = .ok (.bipush 46, 2) := by decide +kernel
theorem dX9_image_127 : decode cX9_image 127 = .ok (.iadd, 1) := by decide +kernel
theorem dX9_image_128 : decode cX9_image 128 = .ok (.aload_n 0, 1) := by decide +kernel
theorem dX9_image_129 : decode cX9_image 129 = .ok (.getfield 136, 3) := by decide +kernel
theorem dX9_image_132 : decode cX9_image 132 = .ok (.iastore, 1) := by decide +kernel
theorem dX9_image_133 : decode cX9_image 133 = .ok (.aload_n 0, 1) := by decide +kernel
theorem dX9_image_134 : decode cX9_image 134 = .ok (.getfield 45, 3) := by decide +kernel
theorem dX9_image_137 : decode cX9_image 137 = .ok (.iload_n 1, 1) := by decide +kernel
theorem dX9_image_138 : decode cX9_image 138 = .ok (.iconst 1, 1) := by decide +kernel
theorem dX9_image_139 : decode cX9_image 139 = .ok (.bastore, 1) := by decide +kernel
theorem dX9_image_140 : decode cX9_image 140 = .ok (.iconst 1, 1) := by decide +kernel
theorem dX9_image_141 : decode cX9_image 141 = .ok (.ireturn, 1) := by decide +kernel
set_option maxRecDepth 20000 in
theorem ggX9_restore_X9_in : GoodIn wsX9_restore wsX9_in := goodIn_r _ [11] (by decide +kernel) (by decide +kernel)
set_option maxRecDepth 20000 in
theorem gX9_restore_X9_in : GoodIn wsX9_restore (va_wsS RX9 48 yX9_in wsX9_in) := goodIn_app (goodIn_of _ (by decide +kernel)) ggX9_restore_X9_in
theorem dX9_restore_0 : decode cX9_restore 0 = .ok (.iload_n 1, 1) := by decide +kernel
theorem dX9_restore_1 : decode cX9_restore 1 = .ok (.iconst 0, 1) := by decide +kernel
theorem dX9_restore_2 : decode cX9_restore 2 = .ok (.iconst 1, 1) := by decide +kernel
theorem dX9_restore_3 : decode cX9_restore 3 = .ok (.invokestatic 48, 3) := by decide +kernel
theorem dX9_restore_6 : decode cX9_restore 6 = .ok (.ifCond .ne 6, 3) := by decide +kernel
theorem dX9_restore_9 : decode cX9_restore 9 = .ok (.bipush (-2), 2) := by decide +kernel
theorem dX9_restore_11 : decode cX9_restore 11 = .ok (.ireturn, 1) := by decide +kernel
theorem dX9_restore_12 : decode cX9_restore 12 = .ok (.aload_n 0, 1) := by decide +kernel
theorem dX9_restore_13 : decode cX9_restore 13 = .ok (.getfield 45, 3) := by decide +kernel
theorem dX9_restore_16 : decode cX9_restore 16 = .ok (.iload_n 1, 1) := by decide +kernel
theorem dX9_restore_17 : decode cX9_restore 17 = .ok (.baload, 1) := by decide +kernel
theorem dX9_restore_18 : decode cX9_restore 18 = .ok (.ifCond .ne 6, 3) := by decide +kernel
theorem dX9_restore_21 : decode cX9_restore 21 = .ok (.bipush (-3), 2) := by decide +kernel
theorem dX9_restore_23 : decode cX9_restore 23 = .ok (.ireturn, 1) := by decide +kernel
theorem dX9_restore_24 : decode cX9_restore 24 = .ok (.bipush 50, 2) := by decide +kernel
theorem dX9_restore_26 : decode cX9_restore 26 = .ok (.iload_n 1, 1) := by decide +kernel
theorem dX9_restore_27 : decode cX9_restore 27 = .ok (.imul, 1) := by decide +kernel
theorem dX9_restore_28 : decode cX9_restore 28 = .ok (.istore_n 2, 1) := by decide +kernel
theorem dX9_restore_29 : decode cX9_restore 29 = .ok (.iconst 0, 1) := by decide +kernel
theorem dX9_restore_30 : decode cX9_restore 30 = .ok (.istore_n 3, 1) := by decide +kernel
theorem dX9_restore_31 : decode cX9_restore 31 = .ok (.iload_n 3, 1) := by decide +kernel
theorem dX9_restore_32 : decode cX9_restore 32 = .ok (.bipush 19, 2) := by decide +kernel
theorem dX9_restore_34 : decode cX9_restore 34 = .ok (.if_icmp .ge 23, 3) := by decide +kernel
theorem dX9_restore_37 : decode cX9_restore 37 = .ok (.aload_n 0, 1) := by decide +kernel
theorem dX9_restore_38 : decode cX9_restore 38 = .ok (.getfield 7, 3) := by decide +kernel
theorem dX9_restore_41 : decode cX9_restore 41 = .ok (.iload_n 3, 1) := by decide +kernel
theorem dX9_restore_42 : decode cX9_restore 42 = .ok (.aload_n 0, 1) := by decide +kernel
theorem dX9_restore_43 : decode cX9_restore 43 = .ok (.getfield 42, 3) := by decide +kernel
theorem dX9_restore_46 : decode cX9_restore 46 = .ok (.iload_n 2, 1) := by decide +kernel
theorem dX9_restore_47 : decode cX9_restore 47 = .ok (.iload_n 3, 1) := by decide +kernel
theorem dX9_restore_48 : decode cX9_restore 48 = .ok (.iadd, 1) := by decide +kernel
theorem dX9_restore_49 : decode cX9_restore 49 = .ok (.iaload, 1) := by decide +kernel
theorem dX9_restore_50 : decode cX9_restore 50 = .ok (.iastore, 1) := by decide +kernel
theorem dX9_restore_51 : decode cX9_restore 51 = .ok (.iinc 3 1, 3) := by decide +kernel
theorem dX9_restore_54 : decode cX9_restore 54 = .ok (.goto (-23), 3) := by decide +kernel
theorem dX9_restore_57 : decode cX9_restore 57 = .ok (.iconst 0, 1) := by decide +kernel
theorem dX9_restore_58 : decode cX9_restore 58 = .ok (.istore_n 3, 1) := by decide +kernel
theorem dX9_restore_59 : decode cX9_restore 59 = .ok (.iload_n 3, 1) := by decide +kernel
theorem dX9_restore_60 : decode cX9_restore 60 = .ok (.bipush 7, 2) := by decide +kernel
theorem dX9_restore_62 : decode cX9_restore 62 = .ok (.if_icmp .ge 26, 3) := by decide +kernel
theorem dX9_restore_65 : decode cX9_restore 65 = .ok (.aload_n 0, 1) := by decide +kernel
theorem dX9_restore_66 : decode cX9_restore 66 = .ok (.getfield 16, 3) := by decide +kernel
theorem dX9_restore_69 : decode cX9_restore 69 = .ok (.iload_n 3, 1) := by decide +kernel
theorem dX9_restore_70 : decode cX9_restore 70 = .ok (.aload_n 0, 1) := by decide +kernel
theorem dX9_restore_71 : decode cX9_restore 71 = .ok (.getfield 42, 3) := by decide +kernel
theorem dX9_restore_74 : decode cX9_restore 74 = .ok (.iload_n 2, 1) := by decide +kernel
theorem dX9_restore_75 : decode cX9_restore 75 = .ok (.bipush 19, 2) := by decide +kernel
theorem dX9_restore_77 : decode cX9_restore 77 = .ok (.iadd, 1) := by decide +kernel
theorem dX9_restore_78 : decode cX9_restore 78 = .ok (.iload_n 3, 1) := by decide +kernel
theorem dX9_restore_79 : decode cX9_restore 79 = .ok (.iadd, 1) := by decide +kernel
theorem dX9_restore_80 : decode cX9_restore 80 = .ok (.iaload, 1) := by decide +kernel
theorem dX9_restore_81 : decode cX9_restore 81 = .ok (.iastore, 1) := by decide +kernel
theorem dX9_restore_82 : decode cX9_restore 82 = .ok (.iinc 3 1, 3) := by decide +kernel
theorem dX9_restore_85 : decode cX9_restore 85 = .ok (.goto (-26), 3) := by decide +kernel
theorem dX9_restore_88 : decode cX9_restore 88 = .ok (.iconst 0, 1) := by decide +kernel
theorem dX9_restore_89 : decode cX9_restore 89 = .ok (.istore_n 3, 1) := by decide +kernel
theorem dX9_restore_90 : decode cX9_restore 90 = .ok (.iload_n 3, 1) := by decide +kernel
theorem dX9_restore_91 : decode cX9_restore 91 = .ok (.bipush 16, 2) := by decide +kernel
theorem dX9_restore_93 : decode cX9_restore 93 = .ok (.if_icmp .ge 26, 3) := by decide +kernel
theorem dX9_restore_96 : decode cX9_restore 96 = .ok (.aload_n 0, 1) := by decide +kernel
theorem dX9_restore_97 : decode cX9_restore 97 = .ok (.getfield 19, 3) := by decide +kernel
theorem dX9_restore_100 : decode cX9_restore 100 = .ok (.iload_n 3, 1) := by decide +kernel
theorem dX9_restore_101 : decode cX9_restore 101 = .ok (.aload_n 0, 1) := by decide +kernel
theorem dX9_restore_102 : decode cX9_restore 102 = .ok (.getfield 42, 3) := by decide +kernel
theorem dX9_restore_105 : decode cX9_restore 105 = .ok (.iload_n 2, 1) := by decide +kernel
theorem dX9_restore_106 : decode cX9_restore 106 = .ok (.bipush 26, 2) := by decide +kernel
theorem dX9_restore_108 : decode cX9_restore 108 = .ok (.iadd, 1) := by decide +kernel
theorem dX9_restore_109 : decode cX9_restore 109 = .ok (.iload_n 3, 1) := by decide +kernel
theorem dX9_restore_110 : decode cX9_restore 110 = .ok (.iadd, 1) := by decide +kernel
theorem dX9_restore_111 : decode cX9_restore 111 = .ok (.iaload, 1) := by decide +kernel
theorem dX9_restore_112 : decode cX9_restore 112 = .ok (.iastore, 1) := by decide +kernel
theorem dX9_restore_113 : decode cX9_restore 113 = .ok (.iinc 3 1, 3) := by decide +kernel
theorem dX9_restore_116 : decode cX9_restore 116 = .ok (.goto (-26), 3) := by decide +kernel
theorem dX9_restore_119 : decode cX9_restore 119 = .ok (.aload_n 0, 1) := by decide +kernel
theorem dX9_restore_120 : decode cX9_restore 120 = .ok (.aload_n 0, 1) := by decide +kernel
theorem dX9_restore_121 : decode cX9_restore 121 = .ok (.getfield 42, 3) := by decide +kernel
theorem dX9_restore_124 : decode cX9_restore 124 = .ok (.iload_n 2, 1) := by decide +kernel
theorem dX9_restore_125 : decode cX9_restore 125 = .ok (.bipush 45, 2) := by decide +kernel
theorem dX9_restore_127 : decode cX9_restore 127 = .ok (.iadd, 1) := by decide +kernel
theorem dX9_restore_128 : decode cX9_restore 128 = .ok (.iaload, 1) := by decide +kernel
theorem dX9_restore_129 : decode cX9_restore 129 = .ok (.putfield 52, 3) := by decide +kernel
theorem dX9_restore_132 : decode cX9_restore 132 = .ok (.aload_n 0, 1) := by decide +kernel
theorem dX9_restore_133 : decode cX9_restore 133 = .ok (.aload_n 0, 1) := by decide +kernel
theorem dX9_restore_134 : decode cX9_restore 134 = .ok (.getfield 42, 3) := by decide +kernel
theorem dX9_restore_137 : decode cX9_restore 137 = .ok (.iload_n 2, 1) := by decide +kernel
theorem dX9_restore_138 : decode cX9_restore 138 = .ok (.bipush 46, 2) := by decide +kernel
theorem dX9_restore_140 : decode cX9_restore 140 = .ok (.iadd, 1) := by decide +kernel
theorem dX9_restore_141 : decode cX9_restore 141 = .ok (.iaload, 1) := by decide +kernel
theorem dX9_restore_142 : decode cX9_restore 142 = .ok (.putfield 136, 3) := by decide +kernel
theorem dX9_restore_145 : decode cX9_restore 145 = .ok (.iconst 1, 1) := by decide +kernel
theorem dX9_restore_146 : decode cX9_restore 146 = .ok (.ireturn, 1) := by decide +kernel
set_option maxRecDepth 20000 in
theorem ggX9_told_X9_in : GoodIn wsX9_told wsX9_in := goodIn_r _ [9] (by decide +kernel) (by decide +kernel)
set_option maxRecDepth 20000 in
theorem gX9_told_X9_in : GoodIn wsX9_told (va_wsS RX9 48 yX9_in wsX9_in) := goodIn_app (goodIn_of _ (by decide +kernel)) ggX9_told_X9_in
set_option maxRecDepth 20000 in
theorem ggX9_told_X9_isThere : GoodIn wsX9_told wsX9_isThere := goodIn_r _ [13, 4, 6, 7, 8, 9, 14, 15, 16, 17, 18, 19, 20, 21, 22, 23, 24, 25, 26, 27, 28, 29, 30, 31, 32, 33, 34, 35] (by decide +kernel) (by decide +kernel)
set_option maxRecDepth 20000 in
theorem gX9_told_X9_isThere : GoodIn wsX9_told (wsV RX9 77 RX9 yX9_isThere wsX9_isThere) := goodIn_app (goodIn_of _ (by decide +kernel)) ggX9_told_X9_isThere
theorem dX9_told_0 : decode cX9_told 0 = .ok (.iload_n 1, 1) := by decide +kernel
theorem dX9_told_1 : decode cX9_told 1 = .ok (.bipush 10, 2) := by decide +kernel
theorem dX9_told_3 : decode cX9_told 3 = .ok (.if_icmp .lt 101, 3) := by decide +kernel
theorem dX9_told_6 : decode cX9_told 6 = .ok (.iload_n 1, 1) := by decide +kernel
theorem dX9_told_7 : decode cX9_told 7 = .ok (.bipush 10, 2) := by decide +kernel
theorem dX9_told_9 : decode cX9_told 9 = .ok (.irem, 1) := by decide +kernel
theorem dX9_told_10 : decode cX9_told 10 = .ok (.istore_n 2, 1) := by decide +kernel
theorem dX9_told_11 : decode cX9_told 11 = .ok (.iload_n 1, 1) := by decide +kernel
theorem dX9_told_12 : decode cX9_told 12 = .ok (.bipush 49, 2) := by decide +kernel
theorem dX9_told_14 : decode cX9_told 14 = .ok (.if_icmp .gt 27, 3) := by decide +kernel
theorem dX9_told_17 : decode cX9_told 17 = .ok (.iload_n 2, 1) := by decide +kernel
theorem dX9_told_18 : decode cX9_told 18 = .ok (.iconst 0, 1) := by decide +kernel
theorem dX9_told_19 : decode cX9_told 19 = .ok (.bipush 6, 2) := by decide +kernel
theorem dX9_told_21 : decode cX9_told 21 = .ok (.invokestatic 48, 3) := by decide +kernel
theorem dX9_told_24 : decode cX9_told 24 = .ok (.ifCond .eq 17, 3) := by decide +kernel
theorem dX9_told_27 : decode cX9_told 27 = .ok (.iload_n 1, 1) := by decide +kernel
theorem dX9_told_28 : decode cX9_told 28 = .ok (.bipush 19, 2) := by decide +kernel
theorem dX9_told_30 : decode cX9_told 30 = .ok (.if_icmp .le 14, 3) := by decide +kernel
theorem dX9_told_33 : decode cX9_told 33 = .ok (.aload_n 0, 1) := by decide +kernel
theorem dX9_told_34 : decode cX9_told 34 = .ok (.iload_n 2, 1) := by decide +kernel
theorem dX9_told_35 : decode cX9_told 35 = .ok (.invokevirtual 77, 3) := by decide +kernel
theorem dX9_told_38 : decode cX9_told 38 = .ok (.ifCond .ne 6, 3) := by decide +kernel
theorem dX9_told_41 : decode cX9_told 41 = .ok (.bipush (-2), 2) := by decide +kernel
theorem dX9_told_43 : decode cX9_told 43 = .ok (.ireturn, 1) := by decide +kernel
theorem dX9_told_44 : decode cX9_told 44 = .ok (.iload_n 1, 1) := by decide +kernel
theorem dX9_told_45 : decode cX9_told 45 = .ok (.bipush 20, 2) := by decide +kernel
theorem dX9_told_47 : decode cX9_told 47 = .ok (.if_icmp .ge 12, 3) := by decide +kernel
theorem dX9_told_50 : decode cX9_told 50 = .ok (.aload_n 0, 1) := by decide +kernel
theorem dX9_told_51 : decode cX9_told 51 = .ok (.getfield 16, 3) := by decide +kernel
theorem dX9_told_54 : decode cX9_told 54 = .ok (.iload_n 2, 1) := by decide +kernel
theorem dX9_told_55 : decode cX9_told 55 = .ok (.iaload, 1) := by decide +kernel
theorem dX9_told_56 : decode cX9_told 56 = .ok (.goto 47, 3) := by decide +kernel
theorem dX9_told_59 : decode cX9_told 59 = .ok (.iload_n 1, 1) := by decide +kernel
theorem dX9_told_60 : decode cX9_told 60 = .ok (.bipush 30, 2) := by decide +kernel
theorem dX9_told_62 : decode cX9_told 62 = .ok (.if_icmp .ge 12, 3) := by decide +kernel
theorem dX9_told_65 : decode cX9_told 65 = .ok (.aload_n 0, 1) := by decide +kernel
theorem dX9_told_66 : decode cX9_told 66 = .ok (.getfield 7, 3) := by decide +kernel
theorem dX9_told_69 : decode cX9_told 69 = .ok (.iload_n 2, 1) := by decide +kernel
theorem dX9_told_70 : decode cX9_told 70 = .ok (.iaload, 1) := by decide +kernel
theorem dX9_told_71 : decode cX9_told 71 = .ok (.goto 32, 3) := by decide +kernel
theorem dX9_told_74 : decode cX9_told 74 = .ok (.iload_n 1, 1) := by decide +kernel
theorem dX9_told_75 : decode cX9_told 75 = .ok (.bipush 40, 2) := by decide +kernel
theorem dX9_told_77 : decode cX9_told 77 = .ok (.if_icmp .ge 15, 3) := by decide +kernel
theorem dX9_told_80 : decode cX9_told 80 = .ok (.aload_n 0, 1) := by decide +kernel
theorem dX9_told_81 : decode cX9_told 81 = .ok (.getfield 7, 3) := by decide +kernel
theorem dX9_told_84 : decode cX9_told 84 = .ok (.bipush 7, 2) := by decide +kernel
theorem dX9_told_86 : decode cX9_told 86 = .ok (.iload_n 2, 1) := by decide +kernel
theorem dX9_told_87 : decode cX9_told 87 = .ok (.iadd, 1) := by decide +kernel
theorem dX9_told_88 : decode cX9_told 88 = .ok (.iaload, 1) := by decide +kernel
theorem dX9_told_89 : decode cX9_told 89 = .ok (.goto 14, 3) := by decide +kernel
theorem dX9_told_92 : decode cX9_told 92 = .ok (.aload_n 0, 1) := by decide +kernel
theorem dX9_told_93 : decode cX9_told 93 = .ok (.getfield 7, 3) := by decide +kernel
theorem dX9_told_96 : decode cX9_told 96 = .ok (.bipush 14, 2) := by decide +kernel
theorem dX9_told_98 : decode cX9_told 98 = .ok (.iaload, 1) := by decide +kernel
theorem dX9_told_99 : decode cX9_told 99 = .ok (.iload_n 2, 1) := by decide +kernel
theorem dX9_told_100 : decode cX9_told 100 = .ok (.ishr, 1) := by decide +kernel
theorem dX9_told_101 : decode cX9_told 101 = .ok (.iconst 1, 1) := by decide +kernel
theorem dX9_told_102 : decode cX9_told 102 = .ok (.iand, 1) := by decide +kernel
theorem dX9_told_103 : decode cX9_told 103 = .ok (.ireturn, 1) := by decide +kernel
theorem dX9_told_104 : decode cX9_told 104 = .ok (.iload_n 1, 1) := by decide +kernel
theorem dX9_told_105 : decode cX9_told 105 = .ok (.tableswitch 59 0 5 #[39, 44, 49, 49, 49, 49], 39) := by decide +kernel
theorem dX9_told_144 : decode cX9_told 144 = .ok (.aload_n 0, 1) := by decide +kernel
theorem dX9_told_145 : decode cX9_told 145 = .ok (.getfield 64, 3) := by decide +kernel
theorem dX9_told_148 : decode cX9_told 148 = .ok (.ireturn, 1) := by decide +kernel
theorem dX9_told_149 : decode cX9_told 149 = .ok (.aload_n 0, 1) := by decide +kernel
theorem dX9_told_150 : decode cX9_told 150 = .ok (.getfield 52, 3) := by decide +kernel
theorem dX9_told_153 : decode cX9_told 153 = .ok (.ireturn, 1) := by decide +kernel
theorem dX9_told_154 : decode cX9_told 154 = .ok (.aload_n 0, 1) := by decide +kernel
theorem dX9_told_155 : decode cX9_told 155 = .ok (.getfield 7, 3) := by decide +kernel
theorem dX9_told_158 : decode cX9_told 158 = .ok (.bipush 13, 2) := by decide +kernel
theorem dX9_told_160 : decode cX9_told 160 = .ok (.iload_n 1, 1) := by decide +kernel
theorem dX9_told_161 : decode cX9_told 161 = .ok (.iadd, 1) := by decide +kernel
theorem dX9_told_162 : decode cX9_told 162 = .ok (.iaload, 1) := by decide +kernel
theorem dX9_told_163 : decode cX9_told 163 = .ok (.ireturn, 1) := by decide +kernel
theorem dX9_told_164 : decode cX9_told 164 = .ok (.iload_n 1, 1) := by decide +kernel
theorem dX9_told_165 : decode cX9_told 165 = .ok (.bipush 6, 2) := by decide +kernel
theorem dX9_told_167 : decode cX9_told 167 = .ok (.if_icmp .ne 10, 3) := by decide +kernel
theorem dX9_told_170 : decode cX9_told 170 = .ok (.aload_n 0, 1) := by decide +kernel
theorem dX9_told_171 : decode cX9_told 171 = .ok (.getfield 136, 3) := by decide +kernel
theorem dX9_told_174 : decode cX9_told 174 = .ok (.goto 5, 3) := by decide +kernel
theorem dX9_told_177 : decode cX9_told 177 = .ok (.bipush (-2), 2) := by decide +kernel
theorem dX9_told_179 : decode cX9_told 179 = .ok (.ireturn, 1) := by decide +kernel
