theorem dX12_init_0 : decode cX12_init 0 = .ok (.aload_n 0, 1) := by decide +kernel
theorem dX12_init_1 : decode cX12_init 1 = .ok (.invokespecial 1, 3) := by decide +kernel
theorem dX12_init_4 : decode cX12_init 4 = .ok (.aload_n 0, 1) := by decide +kernel
theorem dX12_init_5 : decode cX12_init 5 = .ok (.sipush 256, 3) := by decide +kernel
theorem dX12_init_8 : decode cX12_init 8 = .ok (.newarray .int, 2) := by decide +kernel
theorem dX12_init_10 : decode cX12_init 10 = .ok (.putfield 7, 3) := by decide +kernel
theorem dX12_init_13 : decode cX12_init 13 = .ok (.aload_n 0, 1) := by decide +kernel
theorem dX12_init_14 : decode cX12_init 14 = .ok (.sipush 512, 3) := by decide +kernel
theorem dX12_init_17 : decode cX12_init 17 = .ok (.newarray .int, 2) := by decide +kernel
theorem dX12_init_19 : decode cX12_init 19 = .ok (.putfield 13, 3) := by decide +kernel
theorem dX12_init_22 : decode cX12_init 22 = .ok (.aload_n 0, 1) := by decide +kernel
theorem dX12_init_23 : decode cX12_init 23 = .ok (.iconst 2, 1) := by decide +kernel
theorem dX12_init_24 : decode cX12_init 24 = .ok (.newarray .boolean, 2) := by decide +kernel
theorem dX12_init_26 : decode cX12_init 26 = .ok (.putfield 16, 3) := by decide +kernel
theorem dX12_init_29 : decode cX12_init 29 = .ok (.aload_n 0, 1) := by decide +kernel
theorem dX12_init_30 : decode cX12_init 30 = .ok (.iconst 3, 1) := by decide +kernel
theorem dX12_init_31 : decode cX12_init 31 = .ok (.newarray .int, 2) := by decide +kernel
theorem dX12_init_33 : decode cX12_init 33 = .ok (.putfield 20, 3) := by decide +kernel
theorem dX12_init_36 : decode cX12_init 36 = .ok (.aload_n 0, 1) := by decide +kernel
theorem dX12_init_37 : decode cX12_init 37 = .ok (.lconst 1, 1) := by decide +kernel
theorem dX12_init_38 : decode cX12_init 38 = .ok (.putfield 23, 3) := by decide +kernel
theorem dX12_init_41 : decode cX12_init 41 = .ok (.aload_n 0, 1) := by decide +kernel
theorem dX12_init_42 : decode cX12_init 42 = .ok (.sipush 256, 3) := by decide +kernel
theorem dX12_init_45 : decode cX12_init 45 = .ok (.newarray .int, 2) := by decide +kernel
theorem dX12_init_47 : decode cX12_init 47 = .ok (.putfield 27, 3) := by decide +kernel
theorem dX12_init_50 : decode cX12_init 50 = .ok (.aload_n 0, 1) := by decide +kernel
theorem dX12_init_51 : decode cX12_init 51 = .ok (.sipush 256, 3) := by decide +kernel
theorem dX12_init_54 : decode cX12_init 54 = .ok (.newarray .boolean, 2) := by decide +kernel
theorem dX12_init_56 : decode cX12_init 56 = .ok (.putfield 30, 3) := by decide +kernel
theorem dX12_init_59 : decode cX12_init 59 = .ok (.aload_n 0, 1) := by decide +kernel
theorem dX12_init_60 : decode cX12_init 60 = .ok (.bipush 60, 2) := by decide +kernel
theorem dX12_init_62 : decode cX12_init 62 = .ok (.newarray .int, 2) := by decide +kernel
theorem dX12_init_64 : decode cX12_init 64 = .ok (.putfield 33, 3) := by decide +kernel
theorem dX12_init_67 : decode cX12_init 67 = .ok (.aload_n 0, 1) := by decide +kernel
theorem dX12_init_68 : decode cX12_init 68 = .ok (.sipush 256, 3) := by decide +kernel
theorem dX12_init_71 : decode cX12_init 71 = .ok (.newarray .int, 2) := by decide +kernel
theorem dX12_init_73 : decode cX12_init 73 = .ok (.putfield 36, 3) := by decide +kernel
theorem dX12_init_76 : decode cX12_init 76 = .ok (.aload_n 0, 1) := by decide +kernel
theorem dX12_init_77 : decode cX12_init 77 = .ok (.bipush 6, 2) := by decide +kernel
theorem dX12_init_79 : decode cX12_init 79 = .ok (.newarray .int, 2) := by decide +kernel
theorem dX12_init_81 : decode cX12_init 81 = .ok (.putfield 39, 3) := by decide +kernel
theorem dX12_init_84 : decode cX12_init 84 = .ok (.aload_n 0, 1) := by decide +kernel
theorem dX12_init_85 : decode cX12_init 85 = .ok (.sipush 150, 3) := by decide +kernel
theorem dX12_init_88 : decode cX12_init 88 = .ok (.newarray .int, 2) := by decide +kernel
theorem dX12_init_90 : decode cX12_init 90 = .ok (.putfield 42, 3) := by decide +kernel
theorem dX12_init_93 : decode cX12_init 93 = .ok (.aload_n 0, 1) := by decide +kernel
theorem dX12_init_94 : decode cX12_init 94 = .ok (.sipush 128, 3) := by decide +kernel
theorem dX12_init_97 : decode cX12_init 97 = .ok (.newarray .int, 2) := by decide +kernel
theorem dX12_init_99 : decode cX12_init 99 = .ok (.putfield 45, 3) := by decide +kernel
theorem dX12_init_102 : decode cX12_init 102 = .ok (.aload_n 0, 1) := by decide +kernel
theorem dX12_init_103 : decode cX12_init 103 = .ok (.iconst 4, 1) := by decide +kernel
theorem dX12_init_104 : decode cX12_init 104 = .ok (.newarray .int, 2) := by decide +kernel
theorem dX12_init_106 : decode cX12_init 106 = .ok (.putfield 48, 3) := by decide +kernel
theorem dX12_init_109 : decode cX12_init 109 = .ok (.aload_n 0, 1) := by decide +kernel
theorem dX12_init_110 : decode cX12_init 110 = .ok (.getfield 7, 3) := by decide +kernel
theorem dX12_init_113 : decode cX12_init 113 = .ok (.invokestatic 51, 3) := by decide +kernel
theorem dX12_init_116 : decode cX12_init 116 = .ok (.return_, 1) := by decide +kernel
theorem dX12_in_0 : decode cX12_in 0 = .ok (.lload_n 0, 1) := by decide +kernel
theorem dX12_in_1 : decode cX12_in 1 = .ok (.lload_n 2, 1) := by decide +kernel
theorem dX12_in_2 : decode cX12_in 2 = .ok (.lcmp, 1) := by decide +kernel
theorem dX12_in_3 : decode cX12_in 3 = .ok (.ifCond .lt 14, 3) := by decide +kernel
theorem dX12_in_6 : decode cX12_in 6 = .ok (.lload_n 0, 1) := by decide +kernel
theorem dX12_in_7 : decode cX12_in 7 = .ok (.lload 4, 2) := by decide +kernel
theorem dX12_in_9 : decode cX12_in 9 = .ok (.lcmp, 1) := by decide +kernel
theorem dX12_in_10 : decode cX12_in 10 = .ok (.ifCond .gt 7, 3) := by decide +kernel
theorem dX12_in_13 : decode cX12_in 13 = .ok (.iconst 1, 1) := by decide +kernel
theorem dX12_in_14 : decode cX12_in 14 = .ok (.goto 4, 3) := by decide +kernel
theorem dX12_in_17 : decode cX12_in 17 = .ok (.iconst 0, 1) := by decide +kernel
theorem dX12_in_18 : decode cX12_in 18 = .ok (.ireturn, 1) := by decide +kernel
theorem dX12_bad_0 : decode cX12_bad 0 = .ok (.aload_n 0, 1) := by decide +kernel
theorem dX12_bad_1 : decode cX12_bad 1 = .ok (.getfield 20, 3) := by decide +kernel
theorem dX12_bad_4 : decode cX12_bad 4 = .ok (.iconst 0, 1) := by decide +kernel
theorem dX12_bad_5 : decode cX12_bad 5 = .ok (.dup2, 1) := by decide +kernel
theorem dX12_bad_6 : decode cX12_bad 6 = .ok (.iaload, 1) := by decide +kernel
theorem dX12_bad_7 : decode cX12_bad 7 = .ok (.iconst 1, 1) := by decide +kernel
theorem dX12_bad_8 : decode cX12_bad 8 = .ok (.iadd, 1) := by decide +kernel
theorem dX12_bad_9 : decode cX12_bad 9 = .ok (.iastore, 1) := by decide +kernel
theorem dX12_bad_10 : decode cX12_bad 10 = .ok (.iload_n 1, 1) := by decide +kernel
theorem dX12_bad_11 : decode cX12_bad 11 = .ok (.ireturn, 1) := by decide +kernel
theorem dX12_no_0 : decode cX12_no 0 = .ok (.aload_n 0, 1) := by decide +kernel
theorem dX12_no_1 : decode cX12_no 1 = .ok (.getfield 20, 3) := by decide +kernel
theorem dX12_no_4 : decode cX12_no 4 = .ok (.iconst 1, 1) := by decide +kernel
theorem dX12_no_5 : decode cX12_no 5 = .ok (.dup2, 1) := by decide +kernel
theorem dX12_no_6 : decode cX12_no 6 = .ok (.iaload, 1) := by decide +kernel
theorem dX12_no_7 : decode cX12_no 7 = .ok (.iconst 1, 1) := by decide +kernel
theorem dX12_no_8 : decode cX12_no 8 = .ok (.iadd, 1) := by decide +kernel
theorem dX12_no_9 : decode cX12_no 9 = .ok (.iastore, 1) := by decide +kernel
theorem dX12_no_10 : decode cX12_no 10 = .ok (.bipush (-3), 2) := by decide +kernel
theorem dX12_no_12 : decode cX12_no 12 = .ok (.ireturn, 1) := by decide +kernel
theorem dX12_full_0 : decode cX12_full 0 = .ok (.aload_n 0, 1) := by decide +kernel
theorem dX12_full_1 : decode cX12_full 1 = .ok (.getfield 20, 3) := by decide +kernel
theorem dX12_full_4 : decode cX12_full 4 = .ok (.iconst 2, 1) := by decide +kernel
theorem dX12_full_5 : decode cX12_full 5 = .ok (.dup2, 1) := by decide +kernel
theorem dX12_full_6 : decode cX12_full 6 = .ok (.iaload, 1) := by decide +kernel
theorem dX12_full_7 : decode cX12_full 7 = .ok (.iconst 1, 1) := by decide +kernel
theorem dX12_full_8 : decode cX12_full 8 = .ok (.iadd, 1) := by decide +kernel
theorem dX12_full_9 : decode cX12_full 9 = .ok (.iastore, 1) := by decide +kernel
theorem dX12_full_10 : decode cX12_full 10 = .ok (.bipush (-4), 2) := by decide +kernel
theorem dX12_full_12 : decode cX12_full 12 = .ok (.ireturn, 1) := by decide +kernel
theorem dX12_has_0 : decode cX12_has 0 = .ok (.iload_n 0, 1) := by decide +kernel
theorem dX12_has_1 : decode cX12_has 1 = .ok (.iload_n 1, 1) := by decide +kernel
theorem dX12_has_2 : decode cX12_has 2 = .ok (.ishr, 1) := by decide +kernel
theorem dX12_has_3 : decode cX12_has 3 = .ok (.iconst 1, 1) := by decide +kernel
theorem dX12_has_4 : decode cX12_has 4 = .ok (.iand, 1) := by decide +kernel
theorem dX12_has_5 : decode cX12_has 5 = .ok (.iconst 1, 1) := by decide +kernel
theorem dX12_has_6 : decode cX12_has 6 = .ok (.if_icmp .ne 7, 3) := by decide +kernel
theorem dX12_has_9 : decode cX12_has 9 = .ok (.iconst 1, 1) := by decide +kernel
theorem dX12_has_10 : decode cX12_has 10 = .ok (.goto 4, 3) := by decide +kernel
theorem dX12_has_13 : decode cX12_has 13 = .ok (.iconst 0, 1) := by decide +kernel
theorem dX12_has_14 : decode cX12_has 14 = .ok (.ireturn, 1) := by decide +kernel
theorem dX12_bits_0 : decode cX12_bits 0 = .ok (.iconst 0, 1) := by decide +kernel
theorem dX12_bits_1 : decode cX12_bits 1 = .ok (.istore_n 1, 1) := by decide +kernel
theorem dX12_bits_2 : decode cX12_bits 2 = .ok (.iload_n 0, 1) := by decide +kernel
theorem dX12_bits_3 : decode cX12_bits 3 = .ok (.istore_n 2, 1) := by decide +kernel
theorem dX12_bits_4 : decode cX12_bits 4 = .ok (.iload_n 2, 1) := by decide +kernel
theorem dX12_bits_5 : decode cX12_bits 5 = .ok (.ifCond .le 16, 3) := by decide +kernel
theorem dX12_bits_8 : decode cX12_bits 8 = .ok (.iload_n 1, 1) := by decide +kernel
theorem dX12_bits_9 : decode cX12_bits 9 = .ok (.iload_n 2, 1) := by decide +kernel
theorem dX12_bits_10 : decode cX12_bits 10 = .ok (.iconst 1, 1) := by decide +kernel
theorem dX12_bits_11 : decode cX12_bits 11 = .ok (.iand, 1) := by decide +kernel
theorem dX12_bits_12 : decode cX12_bits 12 = .ok (.iadd, 1) := by decide +kernel
theorem dX12_bits_13 : decode cX12_bits 13 = .ok (.istore_n 1, 1) := by decide +kernel
theorem dX12_bits_14 : decode cX12_bits 14 = .ok (.iload_n 2, 1) := by decide +kernel
theorem dX12_bits_15 : decode cX12_bits 15 = .ok (.iconst 1, 1) := by decide +kernel
theorem dX12_bits_16 : decode cX12_bits 16 = .ok (.ishr, 1) := by decide +kernel
theorem dX12_bits_17 : decode cX12_bits 17 = .ok (.istore_n 2, 1) := by decide +kernel
theorem dX12_bits_18 : decode cX12_bits 18 = .ok (.goto (-14), 3) := by decide +kernel
theorem dX12_bits_21 : decode cX12_bits 21 = .ok (.iload_n 1, 1) := by decide +kernel
theorem dX12_bits_22 : decode cX12_bits 22 = .ok (.ireturn, 1) := by decide +kernel
theorem dX12_begin_0 : decode cX12_begin 0 = .ok (.iconst 0, 1) := by decide +kernel
theorem dX12_begin_1 : decode cX12_begin 1 = .ok (.istore_n 1, 1) := by decide +kernel
theorem dX12_begin_2 : decode cX12_begin 2 = .ok (.iload_n 1, 1) := by decide +kernel
theorem dX12_begin_3 : decode cX12_begin 3 = .ok (.sipush 128, 3) := by decide +kernel
theorem dX12_begin_6 : decode cX12_begin 6 = .ok (.if_icmp .ge 13, 3) := by decide +kernel
theorem dX12_begin_9 : decode cX12_begin 9 = .ok (.aload_n 0, 1) := by decide +kernel
theorem dX12_begin_10 : decode cX12_begin 10 = .ok (.iload_n 1, 1) := by decide +kernel
theorem dX12_begin_11 : decode cX12_begin 11 = .ok (.iconst 0, 1) := by decide +kernel
theorem dX12_begin_12 : decode cX12_begin 12 = .ok (.iastore, 1) := by decide +kernel
theorem dX12_begin_13 : decode cX12_begin 13 = .ok (.iinc 1 1, 3) := by decide +kernel
theorem dX12_begin_16 : decode cX12_begin 16 = .ok (.goto (-14), 3) := by decide +kernel
theorem dX12_begin_19 : decode cX12_begin 19 = .ok (.return_, 1) := by decide +kernel
theorem dX12_many_0 : decode cX12_many 0 = .ok (.aload_n 0, 1) := by decide +kernel
theorem dX12_many_1 : decode cX12_many 1 = .ok (.getfield 7, 3) := by decide +kernel
theorem dX12_many_4 : decode cX12_many 4 = .ok (.iconst 1, 1) := by decide +kernel
theorem dX12_many_5 : decode cX12_many 5 = .ok (.iaload, 1) := by decide +kernel
theorem dX12_many_6 : decode cX12_many 6 = .ok (.ireturn, 1) := by decide +kernel
set_option maxRecDepth 20000 in
theorem ggX12_isOne_X12_in : GoodIn wsX12_isOne wsX12_in := goodIn_r _ [5] (by decide +kernel) (by decide +kernel)
set_option maxRecDepth 20000 in
theorem gX12_isOne_X12_in : GoodIn wsX12_isOne (va_wsS RX12 55 yX12_in wsX12_in) := goodIn_app (goodIn_of _ (by decide +kernel)) ggX12_isOne_X12_in
theorem dX12_isOne_0 : decode cX12_isOne 0 = .ok (.iload_n 1, 1) := by decide +kernel
theorem dX12_isOne_1 : decode cX12_isOne 1 = .ok (.i2l, 1) := by decide +kernel
theorem dX12_isOne_2 : decode cX12_isOne 2 = .ok (.lconst 0, 1) := by decide +kernel
theorem dX12_isOne_3 : decode cX12_isOne 3 = .ok (.aload_n 0, 1) := by decide +kernel
theorem dX12_isOne_4 : decode cX12_isOne 4 = .ok (.getfield 7, 3) := by decide +kernel
theorem dX12_isOne_7 : decode cX12_isOne 7 = .ok (.iconst 0, 1) := by decide +kernel
theorem dX12_isOne_8 : decode cX12_isOne 8 = .ok (.iaload, 1) := by decide +kernel
theorem dX12_isOne_9 : decode cX12_isOne 9 = .ok (.iconst 1, 1) := by decide +kernel
theorem dX12_isOne_10 : decode cX12_isOne 10 = .ok (.isub, 1) := by decide +kernel
theorem dX12_isOne_11 : decode cX12_isOne 11 = .ok (.i2l, 1) := by decide +kernel
theorem dX12_isOne_12 : decode cX12_isOne 12 = .ok (.invokestatic 55, 3) := by decide +kernel
theorem dX12_isOne_15 : decode cX12_isOne 15 = .ok (.ireturn, 1) := by decide +kernel
set_option maxRecDepth 20000 in
theorem ggX12_isWrong_X12_many : GoodIn wsX12_isWrong wsX12_many := goodIn_r _ [5, 6, 10, 11, 12, 13, 14, 15, 16, 17, 18, 19, 20, 21, 22, 23, 24, 25, 26, 27, 28] (by decide +kernel) (by decide +kernel)
set_option maxRecDepth 20000 in
theorem gX12_isWrong_X12_many : GoodIn wsX12_isWrong (wsV RX12 59 RX12 yX12_many wsX12_many) := goodIn_app (goodIn_of _ (by decide +kernel)) ggX12_isWrong_X12_many
set_option maxRecDepth 20000 in
theorem ggX12_isWrong_X12_in : GoodIn wsX12_isWrong wsX12_in := goodIn_r _ [9] (by decide +kernel) (by decide +kernel)
set_option maxRecDepth 20000 in
theorem gX12_isWrong_X12_in : GoodIn wsX12_isWrong (va_wsS RX12 55 yX12_in wsX12_in) := goodIn_app (goodIn_of _ (by decide +kernel)) ggX12_isWrong_X12_in
theorem dX12_isWrong_0 : decode cX12_isWrong 0 = .ok (.iload_n 1, 1) := by decide +kernel
theorem dX12_isWrong_1 : decode cX12_isWrong 1 = .ok (.i2l, 1) := by decide +kernel
theorem dX12_isWrong_2 : decode cX12_isWrong 2 = .ok (.lconst 0, 1) := by decide +kernel
theorem dX12_isWrong_3 : decode cX12_isWrong 3 = .ok (.aload_n 0, 1) := by decide +kernel
theorem dX12_isWrong_4 : decode cX12_isWrong 4 = .ok (.invokevirtual 59, 3) := by decide +kernel
theorem dX12_isWrong_7 : decode cX12_isWrong 7 = .ok (.iconst 1, 1) := by decide +kernel
theorem dX12_isWrong_8 : decode cX12_isWrong 8 = .ok (.isub, 1) := by decide +kernel
theorem dX12_isWrong_9 : decode cX12_isWrong 9 = .ok (.i2l, 1) := by decide +kernel
theorem dX12_isWrong_10 : decode cX12_isWrong 10 = .ok (.invokestatic 55, 3) := by decide +kernel
theorem dX12_isWrong_13 : decode cX12_isWrong 13 = .ok (.ireturn, 1) := by decide +kernel
set_option maxRecDepth 20000 in
theorem ggX12_isKind_X12_in : GoodIn wsX12_isKind wsX12_in := goodIn_r _ [5] (by decide +kernel) (by decide +kernel)
set_option maxRecDepth 20000 in
theorem gX12_isKind_X12_in : GoodIn wsX12_isKind (va_wsS RX12 55 yX12_in wsX12_in) := goodIn_app (goodIn_of _ (by decide +kernel)) ggX12_isKind_X12_in
theorem dX12_isKind_0 : decode cX12_isKind 0 = .ok (.iload_n 0, 1) := by decide +kernel
theorem dX12_isKind_1 : decode cX12_isKind 1 = .ok (.i2l, 1) := by decide +kernel
theorem dX12_isKind_2 : decode cX12_isKind 2 = .ok (.lconst 0, 1) := by decide +kernel
theorem dX12_isKind_3 : decode cX12_isKind 3 = .ok (.ldc2_w 63, 3) := by decide +kernel
theorem dX12_isKind_6 : decode cX12_isKind 6 = .ok (.invokestatic 55, 3) := by decide +kernel
theorem dX12_isKind_9 : decode cX12_isKind 9 = .ok (.ireturn, 1) := by decide +kernel
set_option maxRecDepth 20000 in
theorem ggX12_isGravity_X12_in : GoodIn wsX12_isGravity wsX12_in := goodIn_r _ [5] (by decide +kernel) (by decide +kernel)
set_option maxRecDepth 20000 in
theorem gX12_isGravity_X12_in : GoodIn wsX12_isGravity (va_wsS RX12 55 yX12_in wsX12_in) := goodIn_app (goodIn_of _ (by decide +kernel)) ggX12_isGravity_X12_in
theorem dX12_isGravity_0 : decode cX12_isGravity 0 = .ok (.iload_n 0, 1) := by decide +kernel
theorem dX12_isGravity_1 : decode cX12_isGravity 1 = .ok (.i2l, 1) := by decide +kernel
theorem dX12_isGravity_2 : decode cX12_isGravity 2 = .ok (.lconst 1, 1) := by decide +kernel
theorem dX12_isGravity_3 : decode cX12_isGravity 3 = .ok (.ldc2_w 65, 3) := by decide +kernel
theorem dX12_isGravity_6 : decode cX12_isGravity 6 = .ok (.invokestatic 55, 3) := by decide +kernel
theorem dX12_isGravity_9 : decode cX12_isGravity 9 = .ok (.ireturn, 1) := by decide +kernel
set_option maxRecDepth 20000 in
theorem ggX12_valley_X12_begin : GoodIn wsX12_valley wsX12_begin := goodIn_r _ [5] (by decide +kernel) (by decide +kernel)
set_option maxRecDepth 20000 in
theorem gX12_valley_X12_begin : GoodIn wsX12_valley (va_wsS RX12 51 yX12_begin wsX12_begin) := goodIn_app (goodIn_of _ (by decide +kernel)) ggX12_valley_X12_begin
theorem dX12_valley_0 : decode cX12_valley 0 = .ok (.aload_n 0, 1) := by decide +kernel
theorem dX12_valley_1 : decode cX12_valley 1 = .ok (.getfield 7, 3) := by decide +kernel
theorem dX12_valley_4 : decode cX12_valley 4 = .ok (.iconst 0, 1) := by decide +kernel
theorem dX12_valley_5 : decode cX12_valley 5 = .ok (.iaload, 1) := by decide +kernel
theorem dX12_valley_6 : decode cX12_valley 6 = .ok (.istore_n 1, 1) := by decide +kernel
theorem dX12_valley_7 : decode cX12_valley 7 = .ok (.aload_n 0, 1) := by decide +kernel
theorem dX12_valley_8 : decode cX12_valley 8 = .ok (.getfield 7, 3) := by decide +kernel
theorem dX12_valley_11 : decode cX12_valley 11 = .ok (.invokestatic 51, 3) := by decide +kernel
theorem dX12_valley_14 : decode cX12_valley 14 = .ok (.iload_n 1, 1) := by decide +kernel
theorem dX12_valley_15 : decode cX12_valley 15 = .ok (.ireturn, 1) := by decide +kernel
set_option maxRecDepth 20000 in
theorem ggX12_one_X12_isKind : GoodIn wsX12_one wsX12_isKind := goodIn_r _ [5, 6, 7, 8, 4, 9] (by decide +kernel) (by decide +kernel)
set_option maxRecDepth 20000 in
theorem gX12_one_X12_isKind : GoodIn wsX12_one (va_wsS RX12 67 yX12_isKind wsX12_isKind) := goodIn_app (goodIn_of _ (by decide +kernel)) ggX12_one_X12_isKind
set_option maxRecDepth 20000 in
theorem ggX12_one_X12_bad : GoodIn wsX12_one wsX12_bad := goodIn_r _ [13, 14, 19, 20, 21, 22, 23, 24, 25, 26, 27, 28, 29, 30, 31, 32, 33, 34, 35, 36, 37] (by decide +kernel) (by decide +kernel)
set_option maxRecDepth 20000 in
theorem gX12_one_X12_bad : GoodIn wsX12_one (wsV RX12 71 RX12 yX12_bad wsX12_bad) := goodIn_app (goodIn_of _ (by decide +kernel)) ggX12_one_X12_bad
set_option maxRecDepth 20000 in
theorem ggX12_one_X12_full : GoodIn wsX12_one wsX12_full := goodIn_r _ [18, 14, 19, 20, 21, 22, 23, 24, 25, 26, 27, 28, 29, 30, 31, 32, 33, 34, 35, 36, 37] (by decide +kernel) (by decide +kernel)
set_option maxRecDepth 20000 in
theorem gX12_one_X12_full : GoodIn wsX12_one (wsV RX12 75 RX12 yX12_full wsX12_full) := goodIn_app (goodIn_of _ (by decide +kernel)) ggX12_one_X12_full
theorem dX12_one_0 : decode cX12_one 0 = .ok (.iload_n 1, 1) := by decide +kernel
theorem dX12_one_1 : decode cX12_one 1 = .ok (.invokestatic 67, 3) := by decide +kernel
theorem dX12_one_4 : decode cX12_one 4 = .ok (.ifCond .ne 10, 3) := by decide +kernel
theorem dX12_one_7 : decode cX12_one 7 = .ok (.aload_n 0, 1) := by decide +kernel
theorem dX12_one_8 : decode cX12_one 8 = .ok (.bipush (-2), 2) := by decide +kernel
theorem dX12_one_10 : decode cX12_one 10 = .ok (.invokevirtual 71, 3) := by decide +kernel
theorem dX12_one_13 : decode cX12_one 13 = .ok (.ireturn, 1) := by decide +kernel
theorem dX12_one_14 : decode cX12_one 14 = .ok (.aload_n 0, 1) := by decide +kernel
theorem dX12_one_15 : decode cX12_one 15 = .ok (.getfield 7, 3) := by decide +kernel
theorem dX12_one_18 : decode cX12_one 18 = .ok (.iconst 0, 1) := by decide +kernel
theorem dX12_one_19 : decode cX12_one 19 = .ok (.iaload, 1) := by decide +kernel
theorem dX12_one_20 : decode cX12_one 20 = .ok (.bipush 6, 2) := by decide +kernel
theorem dX12_one_22 : decode cX12_one 22 = .ok (.if_icmp .ne 8, 3) := by decide +kernel
theorem dX12_one_25 : decode cX12_one 25 = .ok (.aload_n 0, 1) := by decide +kernel
theorem dX12_one_26 : decode cX12_one 26 = .ok (.invokevirtual 75, 3) := by decide +kernel
theorem dX12_one_29 : decode cX12_one 29 = .ok (.ireturn, 1) := by decide +kernel
theorem dX12_one_30 : decode cX12_one 30 = .ok (.aload_n 0, 1) := by decide +kernel
theorem dX12_one_31 : decode cX12_one 31 = .ok (.getfield 7, 3) := by decide +kernel
theorem dX12_one_34 : decode cX12_one 34 = .ok (.bipush 22, 2) := by decide +kernel
theorem dX12_one_36 : decode cX12_one 36 = .ok (.aload_n 0, 1) := by decide +kernel
theorem dX12_one_37 : decode cX12_one 37 = .ok (.getfield 7, 3) := by decide +kernel
theorem dX12_one_40 : decode cX12_one 40 = .ok (.iconst 0, 1) := by decide +kernel
theorem dX12_one_41 : decode cX12_one 41 = .ok (.iaload, 1) := by decide +kernel
theorem dX12_one_42 : decode cX12_one 42 = .ok (.iadd, 1) := by decide +kernel
theorem dX12_one_43 : decode cX12_one 43 = .ok (.iload_n 1, 1) := by decide +kernel
theorem dX12_one_44 : decode cX12_one 44 = .ok (.iastore, 1) := by decide +kernel
theorem dX12_one_45 : decode cX12_one 45 = .ok (.aload_n 0, 1) := by decide +kernel
theorem dX12_one_46 : decode cX12_one 46 = .ok (.getfield 7, 3) := by decide +kernel
theorem dX12_one_49 : decode cX12_one 49 = .ok (.iconst 0, 1) := by decide +kernel
theorem dX12_one_50 : decode cX12_one 50 = .ok (.dup2, 1) := by decide +kernel
theorem dX12_one_51 : decode cX12_one 51 = .ok (.iaload, 1) := by decide +kernel
theorem dX12_one_52 : decode cX12_one 52 = .ok (.iconst 1, 1) := by decide +kernel
theorem dX12_one_53 : decode cX12_one 53 = .ok (.iadd, 1) := by decide +kernel
theorem dX12_one_54 : decode cX12_one 54 = .ok (.iastore, 1) := by decide +kernel
theorem dX12_one_55 : decode cX12_one 55 = .ok (.aload_n 0, 1) := by decide +kernel
theorem dX12_one_56 : decode cX12_one 56 = .ok (.getfield 7, 3) := by decide +kernel
theorem dX12_one_59 : decode cX12_one 59 = .ok (.iconst 5, 1) := by decide +kernel
theorem dX12_one_60 : decode cX12_one 60 = .ok (.iconst 0, 1) := by decide +kernel
theorem dX12_one_61 : decode cX12_one 61 = .ok (.iastore, 1) := by decide +kernel
theorem dX12_one_62 : decode cX12_one 62 = .ok (.aload_n 0, 1) := by decide +kernel
theorem dX12_one_63 : decode cX12_one 63 = .ok (.getfield 7, 3) := by decide +kernel
theorem dX12_one_66 : decode cX12_one 66 = .ok (.iconst 0, 1) := by decide +kernel
theorem dX12_one_67 : decode cX12_one 67 = .ok (.iaload, 1) := by decide +kernel
theorem dX12_one_68 : decode cX12_one 68 = .ok (.iconst 1, 1) := by decide +kernel
theorem dX12_one_69 : decode cX12_one 69 = .ok (.isub, 1) := by decide +kernel
theorem dX12_one_70 : decode cX12_one 70 = .ok (.ireturn, 1) := by decide +kernel
theorem dX12_layWrong_0 : decode cX12_layWrong 0 = .ok (.aload_n 0, 1) := by decide +kernel
theorem dX12_layWrong_1 : decode cX12_layWrong 1 = .ok (.iconst 1, 1) := by decide +kernel
theorem dX12_layWrong_2 : decode cX12_layWrong 2 = .ok (.iaload, 1) := by decide +kernel
theorem dX12_layWrong_3 : decode cX12_layWrong 3 = .ok (.istore 5, 2) := by decide +kernel
theorem dX12_layWrong_5 : decode cX12_layWrong 5 = .ok (.aload_n 0, 1) := by decide +kernel
theorem dX12_layWrong_6 : decode cX12_layWrong 6 = .ok (.bipush 28, 2) := by decide +kernel
theorem dX12_layWrong_8 : decode cX12_layWrong 8 = .ok (.iload 5, 2) := by decide +kernel
theorem dX12_layWrong_10 : decode cX12_layWrong 10 = .ok (.iadd, 1) := by decide +kernel
theorem dX12_layWrong_11 : decode cX12_layWrong 11 = .ok (.iload_n 1, 1) := by decide +kernel
theorem dX12_layWrong_12 : decode cX12_layWrong 12 = .ok (.iastore, 1) := by decide +kernel
theorem dX12_layWrong_13 : decode cX12_layWrong 13 = .ok (.aload_n 0, 1) := by decide +kernel
theorem dX12_layWrong_14 : decode cX12_layWrong 14 = .ok (.bipush 36, 2) := by decide +kernel
theorem dX12_layWrong_16 : decode cX12_layWrong 16 = .ok (.iload 5, 2) := by decide +kernel
theorem dX12_layWrong_18 : decode cX12_layWrong 18 = .ok (.iadd, 1) := by decide +kernel
theorem dX12_layWrong_19 : decode cX12_layWrong 19 = .ok (.iload_n 2, 1) := by decide +kernel
theorem dX12_layWrong_20 : decode cX12_layWrong 20 = .ok (.iastore, 1) := by decide +kernel
theorem dX12_layWrong_21 : decode cX12_layWrong 21 = .ok (.aload_n 0, 1) := by decide +kernel
theorem dX12_layWrong_22 : decode cX12_layWrong 22 = .ok (.bipush 44, 2) := by decide +kernel
theorem dX12_layWrong_24 : decode cX12_layWrong 24 = .ok (.iload 5, 2) := by decide +kernel
theorem dX12_layWrong_26 : decode cX12_layWrong 26 = .ok (.iadd, 1) := by decide +kernel
theorem dX12_layWrong_27 : decode cX12_layWrong 27 = .ok (.iload_n 3, 1) := by decide +kernel
theorem dX12_layWrong_28 : decode cX12_layWrong 28 = .ok (.iastore, 1) := by decide +kernel
theorem dX12_layWrong_29 : decode cX12_layWrong 29 = .ok (.aload_n 0, 1) := by decide +kernel
theorem dX12_layWrong_30 : decode cX12_layWrong 30 = .ok (.bipush 52, 2) := by decide +kernel
theorem dX12_layWrong_32 : decode cX12_layWrong 32 = .ok (.iload 5, 2) := by decide +kernel
theorem dX12_layWrong_34 : decode cX12_layWrong 34 = .ok (.iadd, 1) := by decide +kernel
theorem dX12_layWrong_35 : decode cX12_layWrong 35 = .ok (.iload 4, 2) := by decide +kernel
theorem dX12_layWrong_37 : decode cX12_layWrong 37 = .ok (.iastore, 1) := by decide +kernel
theorem dX12_layWrong_38 : decode cX12_layWrong 38 = .ok (.aload_n 0, 1) := by decide +kernel
theorem dX12_layWrong_39 : decode cX12_layWrong 39 = .ok (.bipush 12, 2) := by decide +kernel
theorem dX12_layWrong_41 : decode cX12_layWrong 41 = .ok (.iload 5, 2) := by decide +kernel
theorem dX12_layWrong_43 : decode cX12_layWrong 43 = .ok (.iadd, 1) := by decide +kernel
theorem dX12_layWrong_44 : decode cX12_layWrong 44 = .ok (.iconst 0, 1) := by decide +kernel
theorem dX12_layWrong_45 : decode cX12_layWrong 45 = .ok (.iastore, 1) := by decide +kernel
theorem dX12_layWrong_46 : decode cX12_layWrong 46 = .ok (.aload_n 0, 1) := by decide +kernel
theorem dX12_layWrong_47 : decode cX12_layWrong 47 = .ok (.iconst 1, 1) := by decide +kernel
theorem dX12_layWrong_48 : decode cX12_layWrong 48 = .ok (.dup2, 1) := by decide +kernel
theorem dX12_layWrong_49 : decode cX12_layWrong 49 = .ok (.iaload, 1) := by decide +kernel
theorem dX12_layWrong_50 : decode cX12_layWrong 50 = .ok (.iconst 1, 1) := by decide +kernel
theorem dX12_layWrong_51 : decode cX12_layWrong 51 = .ok (.iadd, 1) := by decide +kernel
theorem dX12_layWrong_52 : decode cX12_layWrong 52 = .ok (.iastore, 1) := by decide +kernel
theorem dX12_layWrong_53 : decode cX12_layWrong 53 = .ok (.return_, 1) := by decide +kernel
set_option maxRecDepth 20000 in
theorem ggX12_wrong_X12_isKind : GoodIn wsX12_wrong wsX12_isKind := goodIn_r _ [5, 6, 7, 8, 4, 9] (by decide +kernel) (by decide +kernel)
set_option maxRecDepth 20000 in
theorem gX12_wrong_X12_isKind : GoodIn wsX12_wrong (va_wsS RX12 67 yX12_isKind wsX12_isKind) := goodIn_app (goodIn_of _ (by decide +kernel)) ggX12_wrong_X12_isKind
set_option maxRecDepth 20000 in
theorem ggX12_wrong_X12_isOne : GoodIn wsX12_wrong wsX12_isOne := goodIn_r _ [13, 1, 7, 8, 4, 9, 34, 35, 36, 37, 38, 39, 40, 41, 42, 43, 44, 45, 46, 47, 48, 49, 50, 51, 52] (by decide +kernel) (by decide +kernel)
set_option maxRecDepth 20000 in
theorem gX12_wrong_X12_isOne : GoodIn wsX12_wrong (wsV RX12 78 RX12 yX12_isOne wsX12_isOne) := goodIn_app (goodIn_of _ (by decide +kernel)) ggX12_wrong_X12_isOne
set_option maxRecDepth 20000 in
theorem ggX12_wrong_X12_isGravity : GoodIn wsX12_wrong wsX12_isGravity := goodIn_r _ [16, 17, 7, 8, 4, 9] (by decide +kernel) (by decide +kernel)
set_option maxRecDepth 20000 in
theorem gX12_wrong_X12_isGravity : GoodIn wsX12_wrong (va_wsS RX12 81 yX12_isGravity wsX12_isGravity) := goodIn_app (goodIn_of _ (by decide +kernel)) ggX12_wrong_X12_isGravity
set_option maxRecDepth 20000 in
theorem ggX12_wrong_X12_bad : GoodIn wsX12_wrong wsX12_bad := goodIn_r _ [21, 22, 34, 35, 36, 37, 38, 39, 40, 41, 42, 43, 44, 45, 46, 47, 48, 49, 50, 51, 52] (by decide +kernel) (by decide +kernel)
set_option maxRecDepth 20000 in
theorem gX12_wrong_X12_bad : GoodIn wsX12_wrong (wsV RX12 71 RX12 yX12_bad wsX12_bad) := goodIn_app (goodIn_of _ (by decide +kernel)) ggX12_wrong_X12_bad
set_option maxRecDepth 20000 in
theorem ggX12_wrong_X12_many : GoodIn wsX12_wrong wsX12_many := goodIn_r _ [26, 1, 34, 35, 36, 37, 38, 39, 40, 41, 42, 43, 44, 45, 46, 47, 48, 49, 50, 51, 52] (by decide +kernel) (by decide +kernel)
set_option maxRecDepth 20000 in
theorem gX12_wrong_X12_many : GoodIn wsX12_wrong (wsV RX12 59 RX12 yX12_many wsX12_many) := goodIn_app (goodIn_of _ (by decide +kernel)) ggX12_wrong_X12_many
set_option maxRecDepth 20000 in
theorem ggX12_wrong_X12_full : GoodIn wsX12_wrong wsX12_full := goodIn_r _ [30, 22, 34, 35, 36, 37, 38, 39, 40, 41, 42, 43, 44, 45, 46, 47, 48, 49, 50, 51, 52] (by decide +kernel) (by decide +kernel)
set_option maxRecDepth 20000 in
theorem gX12_wrong_X12_full : GoodIn wsX12_wrong (wsV RX12 75 RX12 yX12_full wsX12_full) := goodIn_app (goodIn_of _ (by decide +kernel)) ggX12_wrong_X12_full
set_option maxRecDepth 20000 in
theorem ggX12_wrong_X12_layWrong : GoodIn wsX12_wrong wsX12_layWrong := goodIn_r _ [33] (by decide +kernel) (by decide +kernel)
set_option maxRecDepth 20000 in
theorem gX12_wrong_X12_layWrong : GoodIn wsX12_wrong (va_wsS RX12 84 yX12_layWrong wsX12_layWrong) := goodIn_app (goodIn_of _ (by decide +kernel)) ggX12_wrong_X12_layWrong
theorem dX12_wrong_0 : decode cX12_wrong 0 = .ok (.iload_n 1, 1) := by decide +kernel
theorem dX12_wrong_1 : decode cX12_wrong 1 = .ok (.invokestatic 67, 3) := by decide +kernel
theorem dX12_wrong_4 : decode cX12_wrong 4 = .ok (.ifCond .eq 32, 3) := by decide +kernel
theorem dX12_wrong_7 : decode cX12_wrong 7 = .ok (.aload_n 0, 1) := by decide +kernel
theorem dX12_wrong_8 : decode cX12_wrong 8 = .ok (.iload_n 2, 1) := by decide +kernel
theorem dX12_wrong_9 : decode cX12_wrong 9 = .ok (.invokevirtual 78, 3) := by decide +kernel
theorem dX12_wrong_12 : decode cX12_wrong 12 = .ok (.ifCond .eq 24, 3) := by decide +kernel
theorem dX12_wrong_15 : decode cX12_wrong 15 = .ok (.aload_n 0, 1) := by decide +kernel
theorem dX12_wrong_16 : decode cX12_wrong 16 = .ok (.iload_n 3, 1) := by decide +kernel
theorem dX12_wrong_17 : decode cX12_wrong 17 = .ok (.invokevirtual 78, 3) := by decide +kernel
theorem dX12_wrong_20 : decode cX12_wrong 20 = .ok (.ifCond .eq 16, 3) := by decide +kernel
theorem dX12_wrong_23 : decode cX12_wrong 23 = .ok (.iload_n 2, 1) := by decide +kernel
theorem dX12_wrong_24 : decode cX12_wrong 24 = .ok (.iload_n 3, 1) := by decide +kernel
theorem dX12_wrong_25 : decode cX12_wrong 25 = .ok (.if_icmp .eq 11, 3) := by decide +kernel
theorem dX12_wrong_28 : decode cX12_wrong 28 = .ok (.iload 4, 2) := by decide +kernel
theorem dX12_wrong_30 : decode cX12_wrong 30 = .ok (.invokestatic 81, 3) := by decide +kernel
theorem dX12_wrong_33 : decode cX12_wrong 33 = .ok (.ifCond .ne 10, 3) := by decide +kernel
theorem dX12_wrong_36 : decode cX12_wrong 36 = .ok (.aload_n 0, 1) := by decide +kernel
theorem dX12_wrong_37 : decode cX12_wrong 37 = .ok (.bipush (-2), 2) := by decide +kernel
theorem dX12_wrong_39 : decode cX12_wrong 39 = .ok (.invokevirtual 71, 3) := by decide +kernel
theorem dX12_wrong_42 : decode cX12_wrong 42 = .ok (.ireturn, 1) := by decide +kernel
theorem dX12_wrong_43 : decode cX12_wrong 43 = .ok (.aload_n 0, 1) := by decide +kernel
theorem dX12_wrong_44 : decode cX12_wrong 44 = .ok (.invokevirtual 59, 3) := by decide +kernel
theorem dX12_wrong_47 : decode cX12_wrong 47 = .ok (.bipush 8, 2) := by decide +kernel
theorem dX12_wrong_49 : decode cX12_wrong 49 = .ok (.if_icmp .ne 8, 3) := by decide +kernel
theorem dX12_wrong_52 : decode cX12_wrong 52 = .ok (.aload_n 0, 1) := by decide +kernel
theorem dX12_wrong_53 : decode cX12_wrong 53 = .ok (.invokevirtual 75, 3) := by decide +kernel
theorem dX12_wrong_56 : decode cX12_wrong 56 = .ok (.ireturn, 1) := by decide +kernel
theorem dX12_wrong_57 : decode cX12_wrong 57 = .ok (.aload_n 0, 1) := by decide +kernel
theorem dX12_wrong_58 : decode cX12_wrong 58 = .ok (.getfield 7, 3) := by decide +kernel
theorem dX12_wrong_61 : decode cX12_wrong 61 = .ok (.iload_n 1, 1) := by decide +kernel
theorem dX12_wrong_62 : decode cX12_wrong 62 = .ok (.iload_n 2, 1) := by decide +kernel
theorem dX12_wrong_63 : decode cX12_wrong 63 = .ok (.iload_n 3, 1) := by decide +kernel
theorem dX12_wrong_64 : decode cX12_wrong 64 = .ok (.iload 4, 2) := by decide +kernel
theorem dX12_wrong_66 : decode cX12_wrong 66 = .ok (.invokestatic 84, 3) := by decide +kernel
theorem dX12_wrong_69 : decode cX12_wrong 69 = .ok (.aload_n 0, 1) := by decide +kernel
theorem dX12_wrong_70 : decode cX12_wrong 70 = .ok (.getfield 7, 3) := by decide +kernel
theorem dX12_wrong_73 : decode cX12_wrong 73 = .ok (.iconst 5, 1) := by decide +kernel
theorem dX12_wrong_74 : decode cX12_wrong 74 = .ok (.iconst 0, 1) := by decide +kernel
theorem dX12_wrong_75 : decode cX12_wrong 75 = .ok (.iastore, 1) := by decide +kernel
theorem dX12_wrong_76 : decode cX12_wrong 76 = .ok (.aload_n 0, 1) := by decide +kernel
theorem dX12_wrong_77 : decode cX12_wrong 77 = .ok (.invokevirtual 59, 3) := by decide +kernel
theorem dX12_wrong_80 : decode cX12_wrong 80 = .ok (.iconst 1, 1) := by decide +kernel
theorem dX12_wrong_81 : decode cX12_wrong 81 = .ok (.isub, 1) := by decide +kernel
theorem dX12_wrong_82 : decode cX12_wrong 82 = .ok (.ireturn, 1) := by decide +kernel
theorem dX12_weighsAs_0 : decode cX12_weighsAs 0 = .ok (.iload_n 1, 1) := by decide +kernel
theorem dX12_weighsAs_1 : decode cX12_weighsAs 1 = .ok (.iload_n 2, 1) := by decide +kernel
theorem dX12_weighsAs_2 : decode cX12_weighsAs 2 = .ok (.iconst 3, 1) := by decide +kernel
theorem dX12_weighsAs_3 : decode cX12_weighsAs 3 = .ok (.idiv, 1) := by decide +kernel
theorem dX12_weighsAs_4 : decode cX12_weighsAs 4 = .ok (.if_icmp .le 11, 3) := by decide +kernel
theorem dX12_weighsAs_7 : decode cX12_weighsAs 7 = .ok (.iload_n 1, 1) := by decide +kernel
theorem dX12_weighsAs_8 : decode cX12_weighsAs 8 = .ok (.iload_n 2, 1) := by decide +kernel
theorem dX12_weighsAs_9 : decode cX12_weighsAs 9 = .ok (.iconst 3, 1) := by decide +kernel
theorem dX12_weighsAs_10 : decode cX12_weighsAs 10 = .ok (.idiv, 1) := by decide +kernel
theorem dX12_weighsAs_11 : decode cX12_weighsAs 11 = .ok (.isub, 1) := by decide +kernel
theorem dX12_weighsAs_12 : decode cX12_weighsAs 12 = .ok (.goto 4, 3) := by decide +kernel
theorem dX12_weighsAs_15 : decode cX12_weighsAs 15 = .ok (.iconst 0, 1) := by decide +kernel
theorem dX12_weighsAs_16 : decode cX12_weighsAs 16 = .ok (.istore_n 3, 1) := by decide +kernel
theorem dX12_weighsAs_17 : decode cX12_weighsAs 17 = .ok (.iload_n 1, 1) := by decide +kernel
theorem dX12_weighsAs_18 : decode cX12_weighsAs 18 = .ok (.iload_n 2, 1) := by decide +kernel
theorem dX12_weighsAs_19 : decode cX12_weighsAs 19 = .ok (.iconst 5, 1) := by decide +kernel
theorem dX12_weighsAs_20 : decode cX12_weighsAs 20 = .ok (.idiv, 1) := by decide +kernel
theorem dX12_weighsAs_21 : decode cX12_weighsAs 21 = .ok (.iconst 5, 1) := by decide +kernel
theorem dX12_weighsAs_22 : decode cX12_weighsAs 22 = .ok (.if_icmp .le 7, 3) := by decide +kernel
theorem dX12_weighsAs_25 : decode cX12_weighsAs 25 = .ok (.iconst 5, 1) := by decide +kernel
theorem dX12_weighsAs_26 : decode cX12_weighsAs 26 = .ok (.goto 6, 3) := by decide +kernel
theorem dX12_weighsAs_29 : decode cX12_weighsAs 29 = .ok (.iload_n 2, 1) := by decide +kernel
theorem dX12_weighsAs_30 : decode cX12_weighsAs 30 = .ok (.iconst 5, 1) := by decide +kernel
theorem dX12_weighsAs_31 : decode cX12_weighsAs 31 = .ok (.idiv, 1) := by decide +kernel
theorem dX12_weighsAs_32 : decode cX12_weighsAs 32 = .ok (.iadd, 1) := by decide +kernel
theorem dX12_weighsAs_33 : decode cX12_weighsAs 33 = .ok (.istore 4, 2) := by decide +kernel
theorem dX12_weighsAs_35 : decode cX12_weighsAs 35 = .ok (.iload_n 0, 1) := by decide +kernel
theorem dX12_weighsAs_36 : decode cX12_weighsAs 36 = .ok (.tableswitch 75 1 5 #[36, 38, 41, 52, 57], 36) := by decide +kernel
theorem dX12_weighsAs_72 : decode cX12_weighsAs 72 = .ok (.iload_n 3, 1) := by decide +kernel
theorem dX12_weighsAs_73 : decode cX12_weighsAs 73 = .ok (.ireturn, 1) := by decide +kernel
theorem dX12_weighsAs_74 : decode cX12_weighsAs 74 = .ok (.iload 4, 2) := by decide +kernel
theorem dX12_weighsAs_76 : decode cX12_weighsAs 76 = .ok (.ireturn, 1) := by decide +kernel
theorem dX12_weighsAs_77 : decode cX12_weighsAs 77 = .ok (.iload_n 3, 1) := by decide +kernel
theorem dX12_weighsAs_78 : decode cX12_weighsAs 78 = .ok (.iconst 2, 1) := by decide +kernel
theorem dX12_weighsAs_79 : decode cX12_weighsAs 79 = .ok (.if_icmp .ge 7, 3) := by decide +kernel
theorem dX12_weighsAs_82 : decode cX12_weighsAs 82 = .ok (.iconst 2, 1) := by decide +kernel
theorem dX12_weighsAs_83 : decode cX12_weighsAs 83 = .ok (.goto 4, 3) := by decide +kernel
theorem dX12_weighsAs_86 : decode cX12_weighsAs 86 = .ok (.iload_n 3, 1) := by decide +kernel
theorem dX12_weighsAs_87 : decode cX12_weighsAs 87 = .ok (.ireturn, 1) := by decide +kernel
theorem dX12_weighsAs_88 : decode cX12_weighsAs 88 = .ok (.iconst 2, 1) := by decide +kernel
theorem dX12_weighsAs_89 : decode cX12_weighsAs 89 = .ok (.iload 4, 2) := by decide +kernel
theorem dX12_weighsAs_91 : decode cX12_weighsAs 91 = .ok (.imul, 1) := by decide +kernel
theorem dX12_weighsAs_92 : decode cX12_weighsAs 92 = .ok (.ireturn, 1) := by decide +kernel
theorem dX12_weighsAs_93 : decode cX12_weighsAs 93 = .ok (.iload_n 2, 1) := by decide +kernel
theorem dX12_weighsAs_94 : decode cX12_weighsAs 94 = .ok (.iconst 1, 1) := by decide +kernel
theorem dX12_weighsAs_95 : decode cX12_weighsAs 95 = .ok (.if_icmp .lt 14, 3) := by decide +kernel
theorem dX12_weighsAs_98 : decode cX12_weighsAs 98 = .ok (.iload_n 2, 1) := by decide +kernel
theorem dX12_weighsAs_99 : decode cX12_weighsAs 99 = .ok (.bipush 7, 2) := by decide +kernel
theorem dX12_weighsAs_101 : decode cX12_weighsAs 101 = .ok (.irem, 1) := by decide +kernel
theorem dX12_weighsAs_102 : decode cX12_weighsAs 102 = .ok (.ifCond .ne 7, 3) := by decide +kernel
theorem dX12_weighsAs_105 : decode cX12_weighsAs 105 = .ok (.iconst 0, 1) := by decide +kernel
theorem dX12_weighsAs_106 : decode cX12_weighsAs 106 = .ok (.goto 4, 3) := by decide +kernel
theorem dX12_weighsAs_109 : decode cX12_weighsAs 109 = .ok (.iload_n 3, 1) := by decide +kernel
theorem dX12_weighsAs_110 : decode cX12_weighsAs 110 = .ok (.ireturn, 1) := by decide +kernel
theorem dX12_weighsAs_111 : decode cX12_weighsAs 111 = .ok (.iload_n 1, 1) := by decide +kernel
theorem dX12_weighsAs_112 : decode cX12_weighsAs 112 = .ok (.ireturn, 1) := by decide +kernel
theorem dX12_letsAs_0 : decode cX12_letsAs 0 = .ok (.iconst 2, 1) := by decide +kernel
theorem dX12_letsAs_1 : decode cX12_letsAs 1 = .ok (.iload_n 1, 1) := by decide +kernel
theorem dX12_letsAs_2 : decode cX12_letsAs 2 = .ok (.iadd, 1) := by decide +kernel
theorem dX12_letsAs_3 : decode cX12_letsAs 3 = .ok (.istore_n 3, 1) := by decide +kernel
theorem dX12_letsAs_4 : decode cX12_letsAs 4 = .ok (.iload_n 3, 1) := by decide +kernel
theorem dX12_letsAs_5 : decode cX12_letsAs 5 = .ok (.iconst 2, 1) := by decide +kernel
theorem dX12_letsAs_6 : decode cX12_letsAs 6 = .ok (.idiv, 1) := by decide +kernel
theorem dX12_letsAs_7 : decode cX12_letsAs 7 = .ok (.istore 4, 2) := by decide +kernel
theorem dX12_letsAs_9 : decode cX12_letsAs 9 = .ok (.iload_n 0, 1) := by decide +kernel
theorem dX12_letsAs_10 : decode cX12_letsAs 10 = .ok (.tableswitch 94 1 5 #[34, 38, 41, 56, 71], 34) := by decide +kernel
theorem dX12_letsAs_44 : decode cX12_letsAs 44 = .ok (.iload_n 3, 1) := by decide +kernel
theorem dX12_letsAs_45 : decode cX12_letsAs 45 = .ok (.iconst 3, 1) := by decide +kernel
theorem dX12_letsAs_46 : decode cX12_letsAs 46 = .ok (.iadd, 1) := by decide +kernel
theorem dX12_letsAs_47 : decode cX12_letsAs 47 = .ok (.ireturn, 1) := by decide +kernel
theorem dX12_letsAs_48 : decode cX12_letsAs 48 = .ok (.iload 4, 2) := by decide +kernel
theorem dX12_letsAs_50 : decode cX12_letsAs 50 = .ok (.ireturn, 1) := by decide +kernel
theorem dX12_letsAs_51 : decode cX12_letsAs 51 = .ok (.iload_n 2, 1) := by decide +kernel
theorem dX12_letsAs_52 : decode cX12_letsAs 52 = .ok (.bipush 30, 2) := by decide +kernel
theorem dX12_letsAs_54 : decode cX12_letsAs 54 = .ok (.irem, 1) := by decide +kernel
theorem dX12_letsAs_55 : decode cX12_letsAs 55 = .ok (.ifCond .ne 8, 3) := by decide +kernel
theorem dX12_letsAs_58 : decode cX12_letsAs 58 = .ok (.bipush 30, 2) := by decide +kernel
theorem dX12_letsAs_60 : decode cX12_letsAs 60 = .ok (.goto 5, 3) := by decide +kernel
theorem dX12_letsAs_63 : decode cX12_letsAs 63 = .ok (.iload 4, 2) := by decide +kernel
theorem dX12_letsAs_65 : decode cX12_letsAs 65 = .ok (.ireturn, 1) := by decide +kernel
theorem dX12_letsAs_66 : decode cX12_letsAs 66 = .ok (.iload_n 1, 1) := by decide +kernel
theorem dX12_letsAs_67 : decode cX12_letsAs 67 = .ok (.iconst 2, 1) := by decide +kernel
theorem dX12_letsAs_68 : decode cX12_letsAs 68 = .ok (.if_icmp .lt 10, 3) := by decide +kernel
theorem dX12_letsAs_71 : decode cX12_letsAs 71 = .ok (.iload 4, 2) := by decide +kernel
theorem dX12_letsAs_73 : decode cX12_letsAs 73 = .ok (.iconst 1, 1) := by decide +kernel
theorem dX12_letsAs_74 : decode cX12_letsAs 74 = .ok (.iadd, 1) := by decide +kernel
theorem dX12_letsAs_75 : decode cX12_letsAs 75 = .ok (.goto 5, 3) := by decide +kernel
theorem dX12_letsAs_78 : decode cX12_letsAs 78 = .ok (.iload 4, 2) := by decide +kernel
theorem dX12_letsAs_80 : decode cX12_letsAs 80 = .ok (.ireturn, 1) := by decide +kernel
theorem dX12_letsAs_81 : decode cX12_letsAs 81 = .ok (.iload_n 3, 1) := by decide +kernel
theorem dX12_letsAs_82 : decode cX12_letsAs 82 = .ok (.iconst 3, 1) := by decide +kernel
theorem dX12_letsAs_83 : decode cX12_letsAs 83 = .ok (.iadd, 1) := by decide +kernel
theorem dX12_letsAs_84 : decode cX12_letsAs 84 = .ok (.iload_n 2, 1) := by decide +kernel
theorem dX12_letsAs_85 : decode cX12_letsAs 85 = .ok (.bipush 10, 2) := by decide +kernel
theorem dX12_letsAs_87 : decode cX12_letsAs 87 = .ok (.idiv, 1) := by decide +kernel
theorem dX12_letsAs_88 : decode cX12_letsAs 88 = .ok (.bipush 9, 2) := by decide +kernel
theorem dX12_letsAs_90 : decode cX12_letsAs 90 = .ok (.if_icmp .le 8, 3) := by decide +kernel
theorem dX12_letsAs_93 : decode cX12_letsAs 93 = .ok (.bipush 9, 2) := by decide +kernel
theorem dX12_letsAs_95 : decode cX12_letsAs 95 = .ok (.goto 7, 3) := by decide +kernel
theorem dX12_letsAs_98 : decode cX12_letsAs 98 = .ok (.iload_n 2, 1) := by decide +kernel
theorem dX12_letsAs_99 : decode cX12_letsAs 99 = .ok (.bipush 10, 2) := by decide +kernel
theorem dX12_letsAs_101 : decode cX12_letsAs 101 = .ok (.idiv, 1) := by decide +kernel
theorem dX12_letsAs_102 : decode cX12_letsAs 102 = .ok (.iadd, 1) := by decide +kernel
theorem dX12_letsAs_103 : decode cX12_letsAs 103 = .ok (.ireturn, 1) := by decide +kernel
theorem dX12_letsAs_104 : decode cX12_letsAs 104 = .ok (.iload_n 3, 1) := by decide +kernel
theorem dX12_letsAs_105 : decode cX12_letsAs 105 = .ok (.ireturn, 1) := by decide +kernel
set_option maxRecDepth 20000 in
theorem ggX12_weighsOf_X12_weighsAs : GoodIn wsX12_weighsOf wsX12_weighsAs := goodIn_r _ [4] (by decide +kernel) (by decide +kernel)
set_option maxRecDepth 20000 in
theorem gX12_weighsOf_X12_weighsAs : GoodIn wsX12_weighsOf (va_wsS RX12 88 yX12_weighsAs wsX12_weighsAs) := goodIn_app (goodIn_of _ (by decide +kernel)) ggX12_weighsOf_X12_weighsAs
theorem dX12_weighsOf_0 : decode cX12_weighsOf 0 = .ok (.aload_n 0, 1) := by decide +kernel
theorem dX12_weighsOf_1 : decode cX12_weighsOf 1 = .ok (.bipush 28, 2) := by decide +kernel
theorem dX12_weighsOf_3 : decode cX12_weighsOf 3 = .ok (.iload_n 1, 1) := by decide +kernel
theorem dX12_weighsOf_4 : decode cX12_weighsOf 4 = .ok (.iadd, 1) := by decide +kernel
theorem dX12_weighsOf_5 : decode cX12_weighsOf 5 = .ok (.iaload, 1) := by decide +kernel
theorem dX12_weighsOf_6 : decode cX12_weighsOf 6 = .ok (.aload_n 0, 1) := by decide +kernel
theorem dX12_weighsOf_7 : decode cX12_weighsOf 7 = .ok (.bipush 52, 2) := by decide +kernel
theorem dX12_weighsOf_9 : decode cX12_weighsOf 9 = .ok (.iload_n 1, 1) := by decide +kernel
theorem dX12_weighsOf_10 : decode cX12_weighsOf 10 = .ok (.iadd, 1) := by decide +kernel
theorem dX12_weighsOf_11 : decode cX12_weighsOf 11 = .ok (.iaload, 1) := by decide +kernel
theorem dX12_weighsOf_12 : decode cX12_weighsOf 12 = .ok (.aload_n 0, 1) := by decide +kernel
theorem dX12_weighsOf_13 : decode cX12_weighsOf 13 = .ok (.bipush 12, 2) := by decide +kernel
theorem dX12_weighsOf_15 : decode cX12_weighsOf 15 = .ok (.iload_n 1, 1) := by decide +kernel
theorem dX12_weighsOf_16 : decode cX12_weighsOf 16 = .ok (.iadd, 1) := by decide +kernel
theorem dX12_weighsOf_17 : decode cX12_weighsOf 17 = .ok (.iaload, 1) := by decide +kernel
theorem dX12_weighsOf_18 : decode cX12_weighsOf 18 = .ok (.invokestatic 88, 3) := by decide +kernel
theorem dX12_weighsOf_21 : decode cX12_weighsOf 21 = .ok (.ireturn, 1) := by decide +kernel
set_option maxRecDepth 20000 in
theorem ggX12_letsOf_X12_letsAs : GoodIn wsX12_letsOf wsX12_letsAs := goodIn_r _ [4] (by decide +kernel) (by decide +kernel)
set_option maxRecDepth 20000 in
theorem gX12_letsOf_X12_letsAs : GoodIn wsX12_letsOf (va_wsS RX12 92 yX12_letsAs wsX12_letsAs) := goodIn_app (goodIn_of _ (by decide +kernel)) ggX12_letsOf_X12_letsAs
theorem dX12_letsOf_0 : decode cX12_letsOf 0 = .ok (.aload_n 0, 1) := by decide +kernel
theorem dX12_letsOf_1 : decode cX12_letsOf 1 = .ok (.bipush 22, 2) := by decide +kernel
theorem dX12_letsOf_3 : decode cX12_letsOf 3 = .ok (.iload_n 1, 1) := by decide +kernel
theorem dX12_letsOf_4 : decode cX12_letsOf 4 = .ok (.iadd, 1) := by decide +kernel
theorem dX12_letsOf_5 : decode cX12_letsOf 5 = .ok (.iaload, 1) := by decide +kernel
theorem dX12_letsOf_6 : decode cX12_letsOf 6 = .ok (.aload_n 0, 1) := by decide +kernel
theorem dX12_letsOf_7 : decode cX12_letsOf 7 = .ok (.bipush 6, 2) := by decide +kernel
theorem dX12_letsOf_9 : decode cX12_letsOf 9 = .ok (.iload_n 1, 1) := by decide +kernel
theorem dX12_letsOf_10 : decode cX12_letsOf 10 = .ok (.iadd, 1) := by decide +kernel
theorem dX12_letsOf_11 : decode cX12_letsOf 11 = .ok (.iaload, 1) := by decide +kernel
theorem dX12_letsOf_12 : decode cX12_letsOf 12 = .ok (.aload_n 0, 1) := by decide +kernel
theorem dX12_letsOf_13 : decode cX12_letsOf 13 = .ok (.bipush 21, 2) := by decide +kernel
theorem dX12_letsOf_15 : decode cX12_letsOf 15 = .ok (.iaload, 1) := by decide +kernel
theorem dX12_letsOf_16 : decode cX12_letsOf 16 = .ok (.invokestatic 92, 3) := by decide +kernel
theorem dX12_letsOf_19 : decode cX12_letsOf 19 = .ok (.ireturn, 1) := by decide +kernel
set_option maxRecDepth 20000 in
theorem ggX12_canOff_X12_has : GoodIn wsX12_canOff wsX12_has := goodIn_r _ [4] (by decide +kernel) (by decide +kernel)
set_option maxRecDepth 20000 in
theorem gX12_canOff_X12_has : GoodIn wsX12_canOff (va_wsS RX12 95 yX12_has wsX12_has) := goodIn_app (goodIn_of _ (by decide +kernel)) ggX12_canOff_X12_has
set_option maxRecDepth 20000 in
theorem ggX12_canOff_X12_weighsOf : GoodIn wsX12_canOff wsX12_weighsOf := goodIn_r _ [7, 8, 9, 3, 10] (by decide +kernel) (by decide +kernel)
set_option maxRecDepth 20000 in
theorem gX12_canOff_X12_weighsOf : GoodIn wsX12_canOff (va_wsS RX12 99 yX12_weighsOf wsX12_weighsOf) := goodIn_app (goodIn_of _ (by decide +kernel)) ggX12_canOff_X12_weighsOf
set_option maxRecDepth 20000 in
theorem ggX12_canOff_X12_letsOf : GoodIn wsX12_canOff wsX12_letsOf := goodIn_r _ [13, 14, 15, 3, 16] (by decide +kernel) (by decide +kernel)
set_option maxRecDepth 20000 in
theorem gX12_canOff_X12_letsOf : GoodIn wsX12_canOff (va_wsS RX12 103 yX12_letsOf wsX12_letsOf) := goodIn_app (goodIn_of _ (by decide +kernel)) ggX12_canOff_X12_letsOf
theorem dX12_canOff_0 : decode cX12_canOff 0 = .ok (.aload_n 0, 1) := by decide +kernel
theorem dX12_canOff_1 : decode cX12_canOff 1 = .ok (.bipush 20, 2) := by decide +kernel
theorem dX12_canOff_3 : decode cX12_canOff 3 = .ok (.iaload, 1) := by decide +kernel
theorem dX12_canOff_4 : decode cX12_canOff 4 = .ok (.iload_n 1, 1) := by decide +kernel
theorem dX12_canOff_5 : decode cX12_canOff 5 = .ok (.invokestatic 95, 3) := by decide +kernel
theorem dX12_canOff_8 : decode cX12_canOff 8 = .ok (.ifCond .ne 25, 3) := by decide +kernel
theorem dX12_canOff_11 : decode cX12_canOff 11 = .ok (.aload_n 0, 1) := by decide +kernel
theorem dX12_canOff_12 : decode cX12_canOff 12 = .ok (.iload_n 1, 1) := by decide +kernel
theorem dX12_canOff_13 : decode cX12_canOff 13 = .ok (.invokestatic 99, 3) := by decide +kernel
theorem dX12_canOff_16 : decode cX12_canOff 16 = .ok (.aload_n 0, 1) := by decide +kernel
theorem dX12_canOff_17 : decode cX12_canOff 17 = .ok (.aload_n 0, 1) := by decide +kernel
theorem dX12_canOff_18 : decode cX12_canOff 18 = .ok (.bipush 44, 2) := by decide +kernel
theorem dX12_canOff_20 : decode cX12_canOff 20 = .ok (.iload_n 1, 1) := by decide +kernel
theorem dX12_canOff_21 : decode cX12_canOff 21 = .ok (.iadd, 1) := by decide +kernel
theorem dX12_canOff_22 : decode cX12_canOff 22 = .ok (.iaload, 1) := by decide +kernel
theorem dX12_canOff_23 : decode cX12_canOff 23 = .ok (.invokestatic 103, 3) := by decide +kernel
theorem dX12_canOff_26 : decode cX12_canOff 26 = .ok (.if_icmp .gt 7, 3) := by decide +kernel
theorem dX12_canOff_29 : decode cX12_canOff 29 = .ok (.iconst 1, 1) := by decide +kernel
theorem dX12_canOff_30 : decode cX12_canOff 30 = .ok (.goto 4, 3) := by decide +kernel
theorem dX12_canOff_33 : decode cX12_canOff 33 = .ok (.iconst 0, 1) := by decide +kernel
theorem dX12_canOff_34 : decode cX12_canOff 34 = .ok (.ireturn, 1) := by decide +kernel
set_option maxRecDepth 20000 in
theorem ggX12_isGuilty_X12_has : GoodIn wsX12_isGuilty wsX12_has := goodIn_r _ [4] (by decide +kernel) (by decide +kernel)
set_option maxRecDepth 20000 in
theorem gX12_isGuilty_X12_has : GoodIn wsX12_isGuilty (va_wsS RX12 95 yX12_has wsX12_has) := goodIn_app (goodIn_of _ (by decide +kernel)) ggX12_isGuilty_X12_has
theorem dX12_isGuilty_0 : decode cX12_isGuilty 0 = .ok (.iconst 0, 1) := by decide +kernel
theorem dX12_isGuilty_1 : decode cX12_isGuilty 1 = .ok (.istore_n 2, 1) := by decide +kernel
theorem dX12_isGuilty_2 : decode cX12_isGuilty 2 = .ok (.iconst 0, 1) := by decide +kernel
theorem dX12_isGuilty_3 : decode cX12_isGuilty 3 = .ok (.istore_n 3, 1) := by decide +kernel
theorem dX12_isGuilty_4 : decode cX12_isGuilty 4 = .ok (.iload_n 3, 1) := by decide +kernel
theorem dX12_isGuilty_5 : decode cX12_isGuilty 5 = .ok (.aload_n 0, 1) := by decide +kernel
theorem dX12_isGuilty_6 : decode cX12_isGuilty 6 = .ok (.iconst 1, 1) := by decide +kernel
theorem dX12_isGuilty_7 : decode cX12_isGuilty 7 = .ok (.iaload, 1) := by decide +kernel
theorem dX12_isGuilty_8 : decode cX12_isGuilty 8 = .ok (.if_icmp .ge 40, 3) := by decide +kernel
theorem dX12_isGuilty_11 : decode cX12_isGuilty 11 = .ok (.iload_n 2, 1) := by decide +kernel
theorem dX12_isGuilty_12 : decode cX12_isGuilty 12 = .ok (.ifCond .ne 24, 3) := by decide +kernel
theorem dX12_isGuilty_15 : decode cX12_isGuilty 15 = .ok (.aload_n 0, 1) := by decide +kernel
theorem dX12_isGuilty_16 : decode cX12_isGuilty 16 = .ok (.bipush 36, 2) := by decide +kernel
theorem dX12_isGuilty_18 : decode cX12_isGuilty 18 = .ok (.iload_n 3, 1) := by decide +kernel
theorem dX12_isGuilty_19 : decode cX12_isGuilty 19 = .ok (.iadd, 1) := by decide +kernel
theorem dX12_isGuilty_20 : decode cX12_isGuilty 20 = .ok (.iaload, 1) := by decide +kernel
theorem dX12_isGuilty_21 : decode cX12_isGuilty 21 = .ok (.iload_n 1, 1) := by decide +kernel
theorem dX12_isGuilty_22 : decode cX12_isGuilty 22 = .ok (.if_icmp .ne 18, 3) := by decide +kernel
theorem dX12_isGuilty_25 : decode cX12_isGuilty 25 = .ok (.aload_n 0, 1) := by decide +kernel
theorem dX12_isGuilty_26 : decode cX12_isGuilty 26 = .ok (.bipush 20, 2) := by decide +kernel
theorem dX12_isGuilty_28 : decode cX12_isGuilty 28 = .ok (.iaload, 1) := by decide +kernel
theorem dX12_isGuilty_29 : decode cX12_isGuilty 29 = .ok (.iload_n 3, 1) := by decide +kernel
theorem dX12_isGuilty_30 : decode cX12_isGuilty 30 = .ok (.invokestatic 95, 3) := by decide +kernel
theorem dX12_isGuilty_33 : decode cX12_isGuilty 33 = .ok (.ifCond .ne 7, 3) := by decide +kernel
theorem dX12_isGuilty_36 : decode cX12_isGuilty 36 = .ok (.iconst 1, 1) := by decide +kernel
theorem dX12_isGuilty_37 : decode cX12_isGuilty 37 = .ok (.goto 4, 3) := by decide +kernel
theorem dX12_isGuilty_40 : decode cX12_isGuilty 40 = .ok (.iconst 0, 1) := by decide +kernel
theorem dX12_isGuilty_41 : decode cX12_isGuilty 41 = .ok (.istore_n 2, 1) := by decide +kernel
theorem dX12_isGuilty_42 : decode cX12_isGuilty 42 = .ok (.iinc 3 1, 3) := by decide +kernel
theorem dX12_isGuilty_45 : decode cX12_isGuilty 45 = .ok (.goto (-41), 3) := by decide +kernel
theorem dX12_isGuilty_48 : decode cX12_isGuilty 48 = .ok (.iload_n 2, 1) := by decide +kernel
theorem dX12_isGuilty_49 : decode cX12_isGuilty 49 = .ok (.ireturn, 1) := by decide +kernel
theorem dX12_goOff_0 : decode cX12_goOff 0 = .ok (.aload_n 0, 1) := by decide +kernel
theorem dX12_goOff_1 : decode cX12_goOff 1 = .ok (.bipush 36, 2) := by decide +kernel
theorem dX12_goOff_3 : decode cX12_goOff 3 = .ok (.iload_n 1, 1) := by decide +kernel
theorem dX12_goOff_4 : decode cX12_goOff 4 = .ok (.iadd, 1) := by decide +kernel
theorem dX12_goOff_5 : decode cX12_goOff 5 = .ok (.iaload, 1) := by decide +kernel
theorem dX12_goOff_6 : decode cX12_goOff 6 = .ok (.istore_n 3, 1) := by decide +kernel
theorem dX12_goOff_7 : decode cX12_goOff 7 = .ok (.aload_n 0, 1) := by decide +kernel
theorem dX12_goOff_8 : decode cX12_goOff 8 = .ok (.bipush 20, 2) := by decide +kernel
theorem dX12_goOff_10 : decode cX12_goOff 10 = .ok (.dup2, 1) := by decide +kernel
theorem dX12_goOff_11 : decode cX12_goOff 11 = .ok (.iaload, 1) := by decide +kernel
theorem dX12_goOff_12 : decode cX12_goOff 12 = .ok (.iconst 1, 1) := by decide +kernel
theorem dX12_goOff_13 : decode cX12_goOff 13 = .ok (.iload_n 1, 1) := by decide +kernel
theorem dX12_goOff_14 : decode cX12_goOff 14 = .ok (.ishl, 1) := by decide +kernel
theorem dX12_goOff_15 : decode cX12_goOff 15 = .ok (.ior, 1) := by decide +kernel
theorem dX12_goOff_16 : decode cX12_goOff 16 = .ok (.iastore, 1) := by decide +kernel
theorem dX12_goOff_17 : decode cX12_goOff 17 = .ok (.aload_n 0, 1) := by decide +kernel
theorem dX12_goOff_18 : decode cX12_goOff 18 = .ok (.bipush 6, 2) := by decide +kernel
theorem dX12_goOff_20 : decode cX12_goOff 20 = .ok (.iload_n 3, 1) := by decide +kernel
theorem dX12_goOff_21 : decode cX12_goOff 21 = .ok (.iadd, 1) := by decide +kernel
theorem dX12_goOff_22 : decode cX12_goOff 22 = .ok (.dup2, 1) := by decide +kernel
theorem dX12_goOff_23 : decode cX12_goOff 23 = .ok (.iaload, 1) := by decide +kernel
theorem dX12_goOff_24 : decode cX12_goOff 24 = .ok (.iload_n 2, 1) := by decide +kernel
theorem dX12_goOff_25 : decode cX12_goOff 25 = .ok (.ifCond .eq 18, 3) := by decide +kernel
theorem dX12_goOff_28 : decode cX12_goOff 28 = .ok (.aload_n 0, 1) := by decide +kernel
theorem dX12_goOff_29 : decode cX12_goOff 29 = .ok (.bipush 6, 2) := by decide +kernel
theorem dX12_goOff_31 : decode cX12_goOff 31 = .ok (.iload_n 3, 1) := by decide +kernel
theorem dX12_goOff_32 : decode cX12_goOff 32 = .ok (.iadd, 1) := by decide +kernel
theorem dX12_goOff_33 : decode cX12_goOff 33 = .ok (.iaload, 1) := by decide +kernel
theorem dX12_goOff_34 : decode cX12_goOff 34 = .ok (.bipush 99, 2) := by decide +kernel
theorem dX12_goOff_36 : decode cX12_goOff 36 = .ok (.if_icmp .ge 7, 3) := by decide +kernel
theorem dX12_goOff_39 : decode cX12_goOff 39 = .ok (.iconst 1, 1) := by decide +kernel
theorem dX12_goOff_40 : decode cX12_goOff 40 = .ok (.goto 4, 3) := by decide +kernel
theorem dX12_goOff_43 : decode cX12_goOff 43 = .ok (.iconst 0, 1) := by decide +kernel
theorem dX12_goOff_44 : decode cX12_goOff 44 = .ok (.iadd, 1) := by decide +kernel
theorem dX12_goOff_45 : decode cX12_goOff 45 = .ok (.iastore, 1) := by decide +kernel
theorem dX12_goOff_46 : decode cX12_goOff 46 = .ok (.return_, 1) := by decide +kernel
set_option maxRecDepth 20000 in
theorem ggX12_goDay_X12_has : GoodIn wsX12_goDay wsX12_has := goodIn_r _ [4] (by decide +kernel) (by decide +kernel)
set_option maxRecDepth 20000 in
theorem gX12_goDay_X12_has : GoodIn wsX12_goDay (va_wsS RX12 95 yX12_has wsX12_has) := goodIn_app (goodIn_of _ (by decide +kernel)) ggX12_goDay_X12_has
theorem dX12_goDay_0 : decode cX12_goDay 0 = .ok (.iconst 0, 1) := by decide +kernel
theorem dX12_goDay_1 : decode cX12_goDay 1 = .ok (.istore_n 1, 1) := by decide +kernel
theorem dX12_goDay_2 : decode cX12_goDay 2 = .ok (.iload_n 1, 1) := by decide +kernel
theorem dX12_goDay_3 : decode cX12_goDay 3 = .ok (.aload_n 0, 1) := by decide +kernel
theorem dX12_goDay_4 : decode cX12_goDay 4 = .ok (.iconst 1, 1) := by decide +kernel
theorem dX12_goDay_5 : decode cX12_goDay 5 = .ok (.iaload, 1) := by decide +kernel
theorem dX12_goDay_6 : decode cX12_goDay 6 = .ok (.if_icmp .ge 45, 3) := by decide +kernel
theorem dX12_goDay_9 : decode cX12_goDay 9 = .ok (.aload_n 0, 1) := by decide +kernel
theorem dX12_goDay_10 : decode cX12_goDay 10 = .ok (.bipush 12, 2) := by decide +kernel
theorem dX12_goDay_12 : decode cX12_goDay 12 = .ok (.iload_n 1, 1) := by decide +kernel
theorem dX12_goDay_13 : decode cX12_goDay 13 = .ok (.iadd, 1) := by decide +kernel
theorem dX12_goDay_14 : decode cX12_goDay 14 = .ok (.dup2, 1) := by decide +kernel
theorem dX12_goDay_15 : decode cX12_goDay 15 = .ok (.iaload, 1) := by decide +kernel
theorem dX12_goDay_16 : decode cX12_goDay 16 = .ok (.aload_n 0, 1) := by decide +kernel
theorem dX12_goDay_17 : decode cX12_goDay 17 = .ok (.bipush 20, 2) := by decide +kernel
theorem dX12_goDay_19 : decode cX12_goDay 19 = .ok (.iaload, 1) := by decide +kernel
theorem dX12_goDay_20 : decode cX12_goDay 20 = .ok (.iload_n 1, 1) := by decide +kernel
theorem dX12_goDay_21 : decode cX12_goDay 21 = .ok (.invokestatic 95, 3) := by decide +kernel
theorem dX12_goDay_24 : decode cX12_goDay 24 = .ok (.ifCond .ne 18, 3) := by decide +kernel
theorem dX12_goDay_27 : decode cX12_goDay 27 = .ok (.aload_n 0, 1) := by decide +kernel
theorem dX12_goDay_28 : decode cX12_goDay 28 = .ok (.bipush 12, 2) := by decide +kernel
theorem dX12_goDay_30 : decode cX12_goDay 30 = .ok (.iload_n 1, 1) := by decide +kernel
theorem dX12_goDay_31 : decode cX12_goDay 31 = .ok (.iadd, 1) := by decide +kernel
theorem dX12_goDay_32 : decode cX12_goDay 32 = .ok (.iaload, 1) := by decide +kernel
theorem dX12_goDay_33 : decode cX12_goDay 33 = .ok (.bipush 99, 2) := by decide +kernel
theorem dX12_goDay_35 : decode cX12_goDay 35 = .ok (.if_icmp .ge 7, 3) := by decide +kernel
theorem dX12_goDay_38 : decode cX12_goDay 38 = .ok (.iconst 1, 1) := by decide +kernel
theorem dX12_goDay_39 : decode cX12_goDay 39 = .ok (.goto 4, 3) := by decide +kernel
theorem dX12_goDay_42 : decode cX12_goDay 42 = .ok (.iconst 0, 1) := by decide +kernel
theorem dX12_goDay_43 : decode cX12_goDay 43 = .ok (.iadd, 1) := by decide +kernel
theorem dX12_goDay_44 : decode cX12_goDay 44 = .ok (.iastore, 1) := by decide +kernel
theorem dX12_goDay_45 : decode cX12_goDay 45 = .ok (.iinc 1 1, 3) := by decide +kernel
theorem dX12_goDay_48 : decode cX12_goDay 48 = .ok (.goto (-46), 3) := by decide +kernel
theorem dX12_goDay_51 : decode cX12_goDay 51 = .ok (.aload_n 0, 1) := by decide +kernel
theorem dX12_goDay_52 : decode cX12_goDay 52 = .ok (.bipush 21, 2) := by decide +kernel
theorem dX12_goDay_54 : decode cX12_goDay 54 = .ok (.dup2, 1) := by decide +kernel
theorem dX12_goDay_55 : decode cX12_goDay 55 = .ok (.iaload, 1) := by decide +kernel
theorem dX12_goDay_56 : decode cX12_goDay 56 = .ok (.iconst 1, 1) := by decide +kernel
theorem dX12_goDay_57 : decode cX12_goDay 57 = .ok (.iadd, 1) := by decide +kernel
theorem dX12_goDay_58 : decode cX12_goDay 58 = .ok (.iastore, 1) := by decide +kernel
theorem dX12_goDay_59 : decode cX12_goDay 59 = .ok (.return_, 1) := by decide +kernel
set_option maxRecDepth 20000 in
theorem ggX12_goDays_X12_goDay : GoodIn wsX12_goDays wsX12_goDay := goodIn_r _ [4, 5, 6, 3, 7] (by decide +kernel) (by decide +kernel)
set_option maxRecDepth 20000 in
theorem gX12_goDays_X12_goDay : GoodIn wsX12_goDays (va_wsS RX12 106 yX12_goDay wsX12_goDay) := goodIn_app (goodIn_of _ (by decide +kernel)) ggX12_goDays_X12_goDay
theorem dX12_goDays_0 : decode cX12_goDays 0 = .ok (.iconst 0, 1) := by decide +kernel
theorem dX12_goDays_1 : decode cX12_goDays 1 = .ok (.istore_n 2, 1) := by decide +kernel
theorem dX12_goDays_2 : decode cX12_goDays 2 = .ok (.iload_n 2, 1) := by decide +kernel
theorem dX12_goDays_3 : decode cX12_goDays 3 = .ok (.iload_n 1, 1) := by decide +kernel
theorem dX12_goDays_4 : decode cX12_goDays 4 = .ok (.if_icmp .ge 23, 3) := by decide +kernel
theorem dX12_goDays_7 : decode cX12_goDays 7 = .ok (.aload_n 0, 1) := by decide +kernel
theorem dX12_goDays_8 : decode cX12_goDays 8 = .ok (.bipush 21, 2) := by decide +kernel
theorem dX12_goDays_10 : decode cX12_goDays 10 = .ok (.iaload, 1) := by decide +kernel
theorem dX12_goDays_11 : decode cX12_goDays 11 = .ok (.sipush 999, 3) := by decide +kernel
theorem dX12_goDays_14 : decode cX12_goDays 14 = .ok (.if_icmp .ge 13, 3) := by decide +kernel
theorem dX12_goDays_17 : decode cX12_goDays 17 = .ok (.aload_n 0, 1) := by decide +kernel
theorem dX12_goDays_18 : decode cX12_goDays 18 = .ok (.invokestatic 106, 3) := by decide +kernel
theorem dX12_goDays_21 : decode cX12_goDays 21 = .ok (.iinc 2 1, 3) := by decide +kernel
theorem dX12_goDays_24 : decode cX12_goDays 24 = .ok (.goto (-22), 3) := by decide +kernel
theorem dX12_goDays_27 : decode cX12_goDays 27 = .ok (.return_, 1) := by decide +kernel
theorem dX12_save_0 : decode cX12_save 0 = .ok (.aload_n 0, 1) := by decide +kernel
theorem dX12_save_1 : decode cX12_save 1 = .ok (.getfield 7, 3) := by decide +kernel
theorem dX12_save_4 : decode cX12_save 4 = .ok (.iconst 5, 1) := by decide +kernel
theorem dX12_save_5 : decode cX12_save 5 = .ok (.iaload, 1) := by decide +kernel
theorem dX12_save_6 : decode cX12_save 6 = .ok (.bipush 8, 2) := by decide +kernel
theorem dX12_save_8 : decode cX12_save 8 = .ok (.if_icmp .ne 45, 3) := by decide +kernel
theorem dX12_save_11 : decode cX12_save 11 = .ok (.iconst 0, 1) := by decide +kernel
theorem dX12_save_12 : decode cX12_save 12 = .ok (.istore_n 1, 1) := by decide +kernel
theorem dX12_save_13 : decode cX12_save 13 = .ok (.iload_n 1, 1) := by decide +kernel
theorem dX12_save_14 : decode cX12_save 14 = .ok (.bipush 112, 2) := by decide +kernel
theorem dX12_save_16 : decode cX12_save 16 = .ok (.if_icmp .ge 29, 3) := by decide +kernel
theorem dX12_save_19 : decode cX12_save 19 = .ok (.aload_n 0, 1) := by decide +kernel
theorem dX12_save_20 : decode cX12_save 20 = .ok (.getfield 7, 3) := by decide +kernel
theorem dX12_save_23 : decode cX12_save 23 = .ok (.sipush 128, 3) := by decide +kernel
theorem dX12_save_26 : decode cX12_save 26 = .ok (.iload_n 1, 1) := by decide +kernel
theorem dX12_save_27 : decode cX12_save 27 = .ok (.iadd, 1) := by decide +kernel
theorem dX12_save_28 : decode cX12_save 28 = .ok (.aload_n 0, 1) := by decide +kernel
theorem dX12_save_29 : decode cX12_save 29 = .ok (.getfield 7, 3) := by decide +kernel
theorem dX12_save_32 : decode cX12_save 32 = .ok (.sipush 144, 3) := by decide +kernel
theorem dX12_save_35 : decode cX12_save 35 = .ok (.iload_n 1, 1) := by decide +kernel
theorem dX12_save_36 : decode cX12_save 36 = .ok (.iadd, 1) := by decide +kernel
theorem dX12_save_37 : decode cX12_save 37 = .ok (.iaload, 1) := by decide +kernel
theorem dX12_save_38 : decode cX12_save 38 = .ok (.iastore, 1) := by decide +kernel
theorem dX12_save_39 : decode cX12_save 39 = .ok (.iinc 1 1, 3) := by decide +kernel
theorem dX12_save_42 : decode cX12_save 42 = .ok (.goto (-29), 3) := by decide +kernel
theorem dX12_save_45 : decode cX12_save 45 = .ok (.aload_n 0, 1) := by decide +kernel
theorem dX12_save_46 : decode cX12_save 46 = .ok (.getfield 7, 3) := by decide +kernel
theorem dX12_save_49 : decode cX12_save 49 = .ok (.iconst 5, 1) := by decide +kernel
theorem dX12_save_50 : decode cX12_save 50 = .ok (.bipush 7, 2) := by decide +kernel
theorem dX12_save_52 : decode cX12_save 52 = .ok (.iastore, 1) := by decide +kernel
theorem dX12_save_53 : decode cX12_save 53 = .ok (.iconst 0, 1) := by decide +kernel
theorem dX12_save_54 : decode cX12_save 54 = .ok (.istore_n 1, 1) := by decide +kernel
theorem dX12_save_55 : decode cX12_save 55 = .ok (.iload_n 1, 1) := by decide +kernel
theorem dX12_save_56 : decode cX12_save 56 = .ok (.bipush 16, 2) := by decide +kernel
theorem dX12_save_58 : decode cX12_save 58 = .ok (.if_icmp .ge 38, 3) := by decide +kernel
theorem dX12_save_61 : decode cX12_save 61 = .ok (.aload_n 0, 1) := by decide +kernel
theorem dX12_save_62 : decode cX12_save 62 = .ok (.getfield 7, 3) := by decide +kernel
theorem dX12_save_65 : decode cX12_save 65 = .ok (.sipush 128, 3) := by decide +kernel
theorem dX12_save_68 : decode cX12_save 68 = .ok (.bipush 16, 2) := by decide +kernel
theorem dX12_save_70 : decode cX12_save 70 = .ok (.aload_n 0, 1) := by decide +kernel
theorem dX12_save_71 : decode cX12_save 71 = .ok (.getfield 7, 3) := by decide +kernel
theorem dX12_save_74 : decode cX12_save 74 = .ok (.iconst 5, 1) := by decide +kernel
theorem dX12_save_75 : decode cX12_save 75 = .ok (.iaload, 1) := by decide +kernel
theorem dX12_save_76 : decode cX12_save 76 = .ok (.imul, 1) := by decide +kernel
theorem dX12_save_77 : decode cX12_save 77 = .ok (.iadd, 1) := by decide +kernel
theorem dX12_save_78 : decode cX12_save 78 = .ok (.iload_n 1, 1) := by decide +kernel
theorem dX12_save_79 : decode cX12_save 79 = .ok (.iadd, 1) := by decide +kernel
theorem dX12_save_80 : decode cX12_save 80 = .ok (.aload_n 0, 1) := by decide +kernel
theorem dX12_save_81 : decode cX12_save 81 = .ok (.getfield 7, 3) := by decide +kernel
theorem dX12_save_84 : decode cX12_save 84 = .ok (.bipush 6, 2) := by decide +kernel
theorem dX12_save_86 : decode cX12_save 86 = .ok (.iload_n 1, 1) := by decide +kernel
theorem dX12_save_87 : decode cX12_save 87 = .ok (.iadd, 1) := by decide +kernel
theorem dX12_save_88 : decode cX12_save 88 = .ok (.iaload, 1) := by decide +kernel
theorem dX12_save_89 : decode cX12_save 89 = .ok (.iastore, 1) := by decide +kernel
theorem dX12_save_90 : decode cX12_save 90 = .ok (.iinc 1 1, 3) := by decide +kernel
theorem dX12_save_93 : decode cX12_save 93 = .ok (.goto (-38), 3) := by decide +kernel
theorem dX12_save_96 : decode cX12_save 96 = .ok (.aload_n 0, 1) := by decide +kernel
theorem dX12_save_97 : decode cX12_save 97 = .ok (.getfield 7, 3) := by decide +kernel
theorem dX12_save_100 : decode cX12_save 100 = .ok (.iconst 5, 1) := by decide +kernel
theorem dX12_save_101 : decode cX12_save 101 = .ok (.dup2, 1) := by decide +kernel
theorem dX12_save_102 : decode cX12_save 102 = .ok (.iaload, 1) := by decide +kernel
theorem dX12_save_103 : decode cX12_save 103 = .ok (.iconst 1, 1) := by decide +kernel
theorem dX12_save_104 : decode cX12_save 104 = .ok (.iadd, 1) := by decide +kernel
theorem dX12_save_105 : decode cX12_save 105 = .ok (.iastore, 1) := by decide +kernel
theorem dX12_save_106 : decode cX12_save 106 = .ok (.return_, 1) := by decide +kernel
set_option maxRecDepth 20000 in
theorem ggX12_days_X12_in : GoodIn wsX12_days wsX12_in := goodIn_r _ [6] (by decide +kernel) (by decide +kernel)
set_option maxRecDepth 20000 in
theorem gX12_days_X12_in : GoodIn wsX12_days (va_wsS RX12 55 yX12_in wsX12_in) := goodIn_app (goodIn_of _ (by decide +kernel)) ggX12_days_X12_in
set_option maxRecDepth 20000 in
theorem ggX12_days_X12_bad : GoodIn wsX12_days wsX12_bad := goodIn_r _ [10, 11, 25, 26, 27, 28, 29, 30, 31, 32, 33, 34, 35, 36, 37, 38, 39, 40, 41, 42, 43] (by decide +kernel) (by decide +kernel)
set_option maxRecDepth 20000 in
theorem gX12_days_X12_bad : GoodIn wsX12_days (wsV RX12 71 RX12 yX12_bad wsX12_bad) := goodIn_app (goodIn_of _ (by decide +kernel)) ggX12_days_X12_bad
set_option maxRecDepth 20000 in
theorem ggX12_days_X12_save : GoodIn wsX12_days wsX12_save := goodIn_r _ [15, 2, 25, 26, 27, 28, 29, 30, 31, 32, 33, 34, 35, 36, 37, 38, 39, 40, 41, 42, 43] (by decide +kernel) (by decide +kernel)
set_option maxRecDepth 20000 in
theorem gX12_days_X12_save : GoodIn wsX12_days (wsV RX12 111 RX12 yX12_save wsX12_save) := goodIn_app (goodIn_of _ (by decide +kernel)) ggX12_days_X12_save
set_option maxRecDepth 20000 in
theorem ggX12_days_X12_goDays : GoodIn wsX12_days wsX12_goDays := goodIn_r _ [18, 19, 20, 5, 21, 22, 23, 24] (by decide +kernel) (by decide +kernel)
set_option maxRecDepth 20000 in
theorem gX12_days_X12_goDays : GoodIn wsX12_days (va_wsS RX12 114 yX12_goDays wsX12_goDays) := goodIn_app (goodIn_of _ (by decide +kernel)) ggX12_days_X12_goDays
theorem dX12_days_0 : decode cX12_days 0 = .ok (.iload_n 1, 1) := by decide +kernel
theorem dX12_days_1 : decode cX12_days 1 = .ok (.i2l, 1) := by decide +kernel
theorem dX12_days_2 : decode cX12_days 2 = .ok (.lconst 1, 1) := by decide +kernel
theorem dX12_days_3 : decode cX12_days 3 = .ok (.ldc2_w 109, 3) := by decide +kernel
theorem dX12_days_6 : decode cX12_days 6 = .ok (.invokestatic 55, 3) := by decide +kernel
theorem dX12_days_9 : decode cX12_days 9 = .ok (.ifCond .ne 10, 3) := by decide +kernel
theorem dX12_days_12 : decode cX12_days 12 = .ok (.aload_n 0, 1) := by decide +kernel
theorem dX12_days_13 : decode cX12_days 13 = .ok (.bipush (-2), 2) := by decide +kernel
theorem dX12_days_15 : decode cX12_days 15 = .ok (.invokevirtual 71, 3) := by decide +kernel
theorem dX12_days_18 : decode cX12_days 18 = .ok (.ireturn, 1) := by decide +kernel
theorem dX12_days_19 : decode cX12_days 19 = .ok (.aload_n 0, 1) := by decide +kernel
theorem dX12_days_20 : decode cX12_days 20 = .ok (.invokevirtual 111, 3) := by decide +kernel
theorem dX12_days_23 : decode cX12_days 23 = .ok (.aload_n 0, 1) := by decide +kernel
theorem dX12_days_24 : decode cX12_days 24 = .ok (.getfield 7, 3) := by decide +kernel
theorem dX12_days_27 : decode cX12_days 27 = .ok (.iload_n 1, 1) := by decide +kernel
theorem dX12_days_28 : decode cX12_days 28 = .ok (.invokestatic 114, 3) := by decide +kernel
theorem dX12_days_31 : decode cX12_days 31 = .ok (.aload_n 0, 1) := by decide +kernel
theorem dX12_days_32 : decode cX12_days 32 = .ok (.getfield 7, 3) := by decide +kernel
theorem dX12_days_35 : decode cX12_days 35 = .ok (.bipush 21, 2) := by decide +kernel
theorem dX12_days_37 : decode cX12_days 37 = .ok (.iaload, 1) := by decide +kernel
theorem dX12_days_38 : decode cX12_days 38 = .ok (.ireturn, 1) := by decide +kernel
set_option maxRecDepth 20000 in
theorem ggX12_rings_X12_isWrong : GoodIn wsX12_rings wsX12_isWrong := goodIn_r _ [6, 7, 8, 9, 5, 10, 1, 11, 12, 13, 48, 49, 50, 51, 52, 53, 54, 55, 56, 57, 58, 59, 60, 61, 62, 63, 64, 65, 66] (by decide +kernel) (by decide +kernel)
set_option maxRecDepth 20000 in
theorem gX12_rings_X12_isWrong : GoodIn wsX12_rings (wsV RX12 118 RX12 yX12_isWrong wsX12_isWrong) := goodIn_app (goodIn_of _ (by decide +kernel)) ggX12_rings_X12_isWrong
set_option maxRecDepth 20000 in
theorem ggX12_rings_X12_bad : GoodIn wsX12_rings wsX12_bad := goodIn_r _ [17, 18, 48, 49, 50, 51, 52, 53, 54, 55, 56, 57, 58, 59, 60, 61, 62, 63, 64, 65, 66] (by decide +kernel) (by decide +kernel)
set_option maxRecDepth 20000 in
theorem gX12_rings_X12_bad : GoodIn wsX12_rings (wsV RX12 71 RX12 yX12_bad wsX12_bad) := goodIn_app (goodIn_of _ (by decide +kernel)) ggX12_rings_X12_bad
set_option maxRecDepth 20000 in
theorem ggX12_rings_X12_canOff : GoodIn wsX12_rings wsX12_canOff := goodIn_r _ [21, 22, 23, 5, 24, 25, 26, 27, 28, 29, 30, 31, 32, 33, 34, 35, 36] (by decide +kernel) (by decide +kernel)
set_option maxRecDepth 20000 in
theorem gX12_rings_X12_canOff : GoodIn wsX12_rings (va_wsS RX12 121 yX12_canOff wsX12_canOff) := goodIn_app (goodIn_of _ (by decide +kernel)) ggX12_rings_X12_canOff
set_option maxRecDepth 20000 in
theorem ggX12_rings_X12_no : GoodIn wsX12_rings wsX12_no := goodIn_r _ [40, 18, 48, 49, 50, 51, 52, 53, 54, 55, 56, 57, 58, 59, 60, 61, 62, 63, 64, 65, 66] (by decide +kernel) (by decide +kernel)
set_option maxRecDepth 20000 in
theorem gX12_rings_X12_no : GoodIn wsX12_rings (wsV RX12 125 RX12 yX12_no wsX12_no) := goodIn_app (goodIn_of _ (by decide +kernel)) ggX12_rings_X12_no
set_option maxRecDepth 20000 in
theorem ggX12_rings_X12_save : GoodIn wsX12_rings wsX12_save := goodIn_r _ [44, 1, 48, 49, 50, 51, 52, 53, 54, 55, 56, 57, 58, 59, 60, 61, 62, 63, 64, 65, 66] (by decide +kernel) (by decide +kernel)
set_option maxRecDepth 20000 in
theorem gX12_rings_X12_save : GoodIn wsX12_rings (wsV RX12 111 RX12 yX12_save wsX12_save) := goodIn_app (goodIn_of _ (by decide +kernel)) ggX12_rings_X12_save
set_option maxRecDepth 20000 in
theorem ggX12_rings_X12_goOff : GoodIn wsX12_rings wsX12_goOff := goodIn_r _ [47] (by decide +kernel) (by decide +kernel)
set_option maxRecDepth 20000 in
theorem gX12_rings_X12_goOff : GoodIn wsX12_rings (va_wsS RX12 128 yX12_goOff wsX12_goOff) := goodIn_app (goodIn_of _ (by decide +kernel)) ggX12_rings_X12_goOff
theorem dX12_rings_0 : decode cX12_rings 0 = .ok (.aload_n 0, 1) := by decide +kernel
theorem dX12_rings_1 : decode cX12_rings 1 = .ok (.iload_n 1, 1) := by decide +kernel
theorem dX12_rings_2 : decode cX12_rings 2 = .ok (.invokevirtual 118, 3) := by decide +kernel
theorem dX12_rings_5 : decode cX12_rings 5 = .ok (.ifCond .ne 10, 3) := by decide +kernel
theorem dX12_rings_8 : decode cX12_rings 8 = .ok (.aload_n 0, 1) := by decide +kernel
theorem dX12_rings_9 : decode cX12_rings 9 = .ok (.bipush (-2), 2) := by decide +kernel
theorem dX12_rings_11 : decode cX12_rings 11 = .ok (.invokevirtual 71, 3) := by decide +kernel
theorem dX12_rings_14 : decode cX12_rings 14 = .ok (.ireturn, 1) := by decide +kernel
theorem dX12_rings_15 : decode cX12_rings 15 = .ok (.aload_n 0, 1) := by decide +kernel
theorem dX12_rings_16 : decode cX12_rings 16 = .ok (.getfield 7, 3) := by decide +kernel
theorem dX12_rings_19 : decode cX12_rings 19 = .ok (.iload_n 1, 1) := by decide +kernel
theorem dX12_rings_20 : decode cX12_rings 20 = .ok (.invokestatic 121, 3) := by decide +kernel
theorem dX12_rings_23 : decode cX12_rings 23 = .ok (.ifCond .ne 8, 3) := by decide +kernel
theorem dX12_rings_26 : decode cX12_rings 26 = .ok (.aload_n 0, 1) := by decide +kernel
theorem dX12_rings_27 : decode cX12_rings 27 = .ok (.invokevirtual 125, 3) := by decide +kernel
theorem dX12_rings_30 : decode cX12_rings 30 = .ok (.ireturn, 1) := by decide +kernel
theorem dX12_rings_31 : decode cX12_rings 31 = .ok (.aload_n 0, 1) := by decide +kernel
theorem dX12_rings_32 : decode cX12_rings 32 = .ok (.invokevirtual 111, 3) := by decide +kernel
theorem dX12_rings_35 : decode cX12_rings 35 = .ok (.aload_n 0, 1) := by decide +kernel
theorem dX12_rings_36 : decode cX12_rings 36 = .ok (.getfield 7, 3) := by decide +kernel
theorem dX12_rings_39 : decode cX12_rings 39 = .ok (.iload_n 1, 1) := by decide +kernel
theorem dX12_rings_40 : decode cX12_rings 40 = .ok (.iconst 1, 1) := by decide +kernel
theorem dX12_rings_41 : decode cX12_rings 41 = .ok (.invokestatic 128, 3) := by decide +kernel
theorem dX12_rings_44 : decode cX12_rings 44 = .ok (.aload_n 0, 1) := by decide +kernel
theorem dX12_rings_45 : decode cX12_rings 45 = .ok (.getfield 7, 3) := by decide +kernel
theorem dX12_rings_48 : decode cX12_rings 48 = .ok (.bipush 6, 2) := by decide +kernel
theorem dX12_rings_50 : decode cX12_rings 50 = .ok (.aload_n 0, 1) := by decide +kernel
theorem dX12_rings_51 : decode cX12_rings 51 = .ok (.getfield 7, 3) := by decide +kernel
theorem dX12_rings_54 : decode cX12_rings 54 = .ok (.bipush 36, 2) := by decide +kernel
theorem dX12_rings_56 : decode cX12_rings 56 = .ok (.iload_n 1, 1) := by decide +kernel
theorem dX12_rings_57 : decode cX12_rings 57 = .ok (.iadd, 1) := by decide +kernel
theorem dX12_rings_58 : decode cX12_rings 58 = .ok (.iaload, 1) := by decide +kernel
theorem dX12_rings_59 : decode cX12_rings 59 = .ok (.iadd, 1) := by decide +kernel
theorem dX12_rings_60 : decode cX12_rings 60 = .ok (.iaload, 1) := by decide +kernel
theorem dX12_rings_61 : decode cX12_rings 61 = .ok (.ireturn, 1) := by decide +kernel
set_option maxRecDepth 20000 in
theorem ggX12_undo_X12_no : GoodIn wsX12_undo wsX12_no := goodIn_r _ [6, 7, 8, 9, 10, 11, 12, 13, 14, 15, 16, 17, 18, 19, 20, 21, 22, 23, 24, 25, 26] (by decide +kernel) (by decide +kernel)
set_option maxRecDepth 20000 in
theorem gX12_undo_X12_no : GoodIn wsX12_undo (wsV RX12 125 RX12 yX12_no wsX12_no) := goodIn_app (goodIn_of _ (by decide +kernel)) ggX12_undo_X12_no
theorem dX12_undo_0 : decode cX12_undo 0 = .ok (.aload_n 0, 1) := by decide +kernel
theorem dX12_undo_1 : decode cX12_undo 1 = .ok (.getfield 7, 3) := by decide +kernel
theorem dX12_undo_4 : decode cX12_undo 4 = .ok (.iconst 5, 1) := by decide +kernel
theorem dX12_undo_5 : decode cX12_undo 5 = .ok (.iaload, 1) := by decide +kernel
theorem dX12_undo_6 : decode cX12_undo 6 = .ok (.ifCond .ne 8, 3) := by decide +kernel
theorem dX12_undo_9 : decode cX12_undo 9 = .ok (.aload_n 0, 1) := by decide +kernel
theorem dX12_undo_10 : decode cX12_undo 10 = .ok (.invokevirtual 125, 3) := by decide +kernel
theorem dX12_undo_13 : decode cX12_undo 13 = .ok (.ireturn, 1) := by decide +kernel
theorem dX12_undo_14 : decode cX12_undo 14 = .ok (.aload_n 0, 1) := by decide +kernel
theorem dX12_undo_15 : decode cX12_undo 15 = .ok (.getfield 7, 3) := by decide +kernel
theorem dX12_undo_18 : decode cX12_undo 18 = .ok (.iconst 5, 1) := by decide +kernel
theorem dX12_undo_19 : decode cX12_undo 19 = .ok (.dup2, 1) := by decide +kernel
theorem dX12_undo_20 : decode cX12_undo 20 = .ok (.iaload, 1) := by decide +kernel
theorem dX12_undo_21 : decode cX12_undo 21 = .ok (.iconst 1, 1) := by decide +kernel
theorem dX12_undo_22 : decode cX12_undo 22 = .ok (.isub, 1) := by decide +kernel
theorem dX12_undo_23 : decode cX12_undo 23 = .ok (.iastore, 1) := by decide +kernel
theorem dX12_undo_24 : decode cX12_undo 24 = .ok (.iconst 0, 1) := by decide +kernel
theorem dX12_undo_25 : decode cX12_undo 25 = .ok (.istore_n 1, 1) := by decide +kernel
theorem dX12_undo_26 : decode cX12_undo 26 = .ok (.iload_n 1, 1) := by decide +kernel
theorem dX12_undo_27 : decode cX12_undo 27 = .ok (.bipush 16, 2) := by decide +kernel
theorem dX12_undo_29 : decode cX12_undo 29 = .ok (.if_icmp .ge 38, 3) := by decide +kernel
theorem dX12_undo_32 : decode cX12_undo 32 = .ok (.aload_n 0, 1) := by decide +kernel
theorem dX12_undo_33 : decode cX12_undo 33 = .ok (.getfield 7, 3) := by decide +kernel
theorem dX12_undo_36 : decode cX12_undo 36 = .ok (.bipush 6, 2) := by decide +kernel
theorem dX12_undo_38 : decode cX12_undo 38 = .ok (.iload_n 1, 1) := by decide +kernel
theorem dX12_undo_39 : decode cX12_undo 39 = .ok (.iadd, 1) := by decide +kernel
theorem dX12_undo_40 : decode cX12_undo 40 = .ok (.aload_n 0, 1) := by decide +kernel
theorem dX12_undo_41 : decode cX12_undo 41 = .ok (.getfield 7, 3) := by decide +kernel
theorem dX12_undo_44 : decode cX12_undo 44 = .ok (.sipush 128, 3) := by decide +kernel
theorem dX12_undo_47 : decode cX12_undo 47 = .ok (.bipush 16, 2) := by decide +kernel
theorem dX12_undo_49 : decode cX12_undo 49 = .ok (.aload_n 0, 1) := by decide +kernel
theorem dX12_undo_50 : decode cX12_undo 50 = .ok (.getfield 7, 3) := by decide +kernel
theorem dX12_undo_53 : decode cX12_undo 53 = .ok (.iconst 5, 1) := by decide +kernel
theorem dX12_undo_54 : decode cX12_undo 54 = .ok (.iaload, 1) := by decide +kernel
theorem dX12_undo_55 : decode cX12_undo 55 = .ok (.imul, 1) := by decide +kernel
theorem dX12_undo_56 : decode cX12_undo 56 = .ok (.iadd, 1) := by decide +kernel
theorem dX12_undo_57 : decode cX12_undo 57 = .ok (.iload_n 1, 1) := by decide +kernel
theorem dX12_undo_58 : decode cX12_undo 58 = .ok (.iadd, 1) := by decide +kernel
theorem dX12_undo_59 : decode cX12_undo 59 = .ok (.iaload, 1) := by decide +kernel
theorem dX12_undo_60 : decode cX12_undo 60 = .ok (.iastore, 1) := by decide +kernel
theorem dX12_undo_61 : decode cX12_undo 61 = .ok (.iinc 1 1, 3) := by decide +kernel
theorem dX12_undo_64 : decode cX12_undo 64 = .ok (.goto (-38), 3) := by decide +kernel
theorem dX12_undo_67 : decode cX12_undo 67 = .ok (.aload_n 0, 1) := by decide +kernel
theorem dX12_undo_68 : decode cX12_undo 68 = .ok (.getfield 7, 3) := by decide +kernel
theorem dX12_undo_71 : decode cX12_undo 71 = .ok (.bipush 21, 2) := by decide +kernel
theorem dX12_undo_73 : decode cX12_undo 73 = .ok (.iaload, 1) := by decide +kernel
theorem dX12_undo_74 : decode cX12_undo 74 = .ok (.ireturn, 1) := by decide +kernel
set_option maxRecDepth 20000 in
theorem ggX12_of_X12_isOne : GoodIn wsX12_of wsX12_isOne := goodIn_r _ [7, 2, 8, 9, 6, 10, 28, 29, 30, 31, 32, 33, 34, 35, 36, 37, 38, 39, 40, 41, 42, 43, 44, 45, 46] (by decide +kernel) (by decide +kernel)
set_option maxRecDepth 20000 in
theorem gX12_of_X12_isOne : GoodIn wsX12_of (wsV RX12 78 RX12 yX12_isOne wsX12_isOne) := goodIn_app (goodIn_of _ (by decide +kernel)) ggX12_of_X12_isOne
set_option maxRecDepth 20000 in
theorem ggX12_of_X12_in : GoodIn wsX12_of wsX12_in := goodIn_r _ [10] (by decide +kernel) (by decide +kernel)
set_option maxRecDepth 20000 in
theorem gX12_of_X12_in : GoodIn wsX12_of (va_wsS RX12 55 yX12_in wsX12_in) := goodIn_app (goodIn_of _ (by decide +kernel)) ggX12_of_X12_in
set_option maxRecDepth 20000 in
theorem ggX12_of_X12_bad : GoodIn wsX12_of wsX12_bad := goodIn_r _ [14, 15, 28, 29, 30, 31, 32, 33, 34, 35, 36, 37, 38, 39, 40, 41, 42, 43, 44, 45, 46] (by decide +kernel) (by decide +kernel)
set_option maxRecDepth 20000 in
theorem gX12_of_X12_bad : GoodIn wsX12_of (wsV RX12 71 RX12 yX12_bad wsX12_bad) := goodIn_app (goodIn_of _ (by decide +kernel)) ggX12_of_X12_bad
set_option maxRecDepth 20000 in
theorem ggX12_of_X12_letsOf : GoodIn wsX12_of wsX12_letsOf := goodIn_r _ [18, 19, 20, 6, 21] (by decide +kernel) (by decide +kernel)
set_option maxRecDepth 20000 in
theorem gX12_of_X12_letsOf : GoodIn wsX12_of (va_wsS RX12 103 yX12_letsOf wsX12_letsOf) := goodIn_app (goodIn_of _ (by decide +kernel)) ggX12_of_X12_letsOf
set_option maxRecDepth 20000 in
theorem ggX12_of_X12_isGuilty : GoodIn wsX12_of wsX12_isGuilty := goodIn_r _ [24, 25, 26, 6, 27] (by decide +kernel) (by decide +kernel)
set_option maxRecDepth 20000 in
theorem gX12_of_X12_isGuilty : GoodIn wsX12_of (va_wsS RX12 134 yX12_isGuilty wsX12_isGuilty) := goodIn_app (goodIn_of _ (by decide +kernel)) ggX12_of_X12_isGuilty
theorem dX12_of_0 : decode cX12_of 0 = .ok (.aload_n 0, 1) := by decide +kernel
theorem dX12_of_1 : decode cX12_of 1 = .ok (.iload_n 1, 1) := by decide +kernel
theorem dX12_of_2 : decode cX12_of 2 = .ok (.invokevirtual 78, 3) := by decide +kernel
theorem dX12_of_5 : decode cX12_of 5 = .ok (.ifCond .eq 15, 3) := by decide +kernel
theorem dX12_of_8 : decode cX12_of 8 = .ok (.iload_n 2, 1) := by decide +kernel
theorem dX12_of_9 : decode cX12_of 9 = .ok (.i2l, 1) := by decide +kernel
theorem dX12_of_10 : decode cX12_of 10 = .ok (.lconst 0, 1) := by decide +kernel
theorem dX12_of_11 : decode cX12_of 11 = .ok (.ldc2_w 132, 3) := by decide +kernel
theorem dX12_of_14 : decode cX12_of 14 = .ok (.invokestatic 55, 3) := by decide +kernel
theorem dX12_of_17 : decode cX12_of 17 = .ok (.ifCond .ne 10, 3) := by decide +kernel
theorem dX12_of_20 : decode cX12_of 20 = .ok (.aload_n 0, 1) := by decide +kernel
theorem dX12_of_21 : decode cX12_of 21 = .ok (.bipush (-2), 2) := by decide +kernel
theorem dX12_of_23 : decode cX12_of 23 = .ok (.invokevirtual 71, 3) := by decide +kernel
theorem dX12_of_26 : decode cX12_of 26 = .ok (.ireturn, 1) := by decide +kernel
theorem dX12_of_27 : decode cX12_of 27 = .ok (.iload_n 2, 1) := by decide +kernel
theorem dX12_of_28 : decode cX12_of 28 = .ok (.tableswitch 57 0 2 #[28, 38, 48], 28) := by decide +kernel
theorem dX12_of_56 : decode cX12_of 56 = .ok (.aload_n 0, 1) := by decide +kernel
theorem dX12_of_57 : decode cX12_of 57 = .ok (.getfield 7, 3) := by decide +kernel
theorem dX12_of_60 : decode cX12_of 60 = .ok (.bipush 22, 2) := by decide +kernel
theorem dX12_of_62 : decode cX12_of 62 = .ok (.iload_n 1, 1) := by decide +kernel
theorem dX12_of_63 : decode cX12_of 63 = .ok (.iadd, 1) := by decide +kernel
theorem dX12_of_64 : decode cX12_of 64 = .ok (.iaload, 1) := by decide +kernel
theorem dX12_of_65 : decode cX12_of 65 = .ok (.ireturn, 1) := by decide +kernel
theorem dX12_of_66 : decode cX12_of 66 = .ok (.aload_n 0, 1) := by decide +kernel
theorem dX12_of_67 : decode cX12_of 67 = .ok (.getfield 7, 3) := by decide +kernel
theorem dX12_of_70 : decode cX12_of 70 = .ok (.bipush 6, 2) := by decide +kernel
theorem dX12_of_72 : decode cX12_of 72 = .ok (.iload_n 1, 1) := by decide +kernel
theorem dX12_of_73 : decode cX12_of 73 = .ok (.iadd, 1) := by decide +kernel
theorem dX12_of_74 : decode cX12_of 74 = .ok (.iaload, 1) := by decide +kernel
theorem dX12_of_75 : decode cX12_of 75 = .ok (.ireturn, 1) := by decide +kernel
theorem dX12_of_76 : decode cX12_of 76 = .ok (.aload_n 0, 1) := by decide +kernel
theorem dX12_of_77 : decode cX12_of 77 = .ok (.getfield 7, 3) := by decide +kernel
theorem dX12_of_80 : decode cX12_of 80 = .ok (.iload_n 1, 1) := by decide +kernel
theorem dX12_of_81 : decode cX12_of 81 = .ok (.invokestatic 103, 3) := by decide +kernel
theorem dX12_of_84 : decode cX12_of 84 = .ok (.ireturn, 1) := by decide +kernel
theorem dX12_of_85 : decode cX12_of 85 = .ok (.aload_n 0, 1) := by decide +kernel
theorem dX12_of_86 : decode cX12_of 86 = .ok (.getfield 7, 3) := by decide +kernel
theorem dX12_of_89 : decode cX12_of 89 = .ok (.iload_n 1, 1) := by decide +kernel
theorem dX12_of_90 : decode cX12_of 90 = .ok (.invokestatic 134, 3) := by decide +kernel
theorem dX12_of_93 : decode cX12_of 93 = .ok (.ifCond .eq 7, 3) := by decide +kernel
theorem dX12_of_96 : decode cX12_of 96 = .ok (.iconst 1, 1) := by decide +kernel
theorem dX12_of_97 : decode cX12_of 97 = .ok (.goto 4, 3) := by decide +kernel
theorem dX12_of_100 : decode cX12_of 100 = .ok (.iconst 0, 1) := by decide +kernel
theorem dX12_of_101 : decode cX12_of 101 = .ok (.ireturn, 1) := by decide +kernel
set_option maxRecDepth 20000 in
theorem ggX12_toldOf_X12_weighsOf : GoodIn wsX12_toldOf wsX12_weighsOf := goodIn_r _ [5, 6, 7, 4, 8] (by decide +kernel) (by decide +kernel)
set_option maxRecDepth 20000 in
theorem gX12_toldOf_X12_weighsOf : GoodIn wsX12_toldOf (va_wsS RX12 99 yX12_weighsOf wsX12_weighsOf) := goodIn_app (goodIn_of _ (by decide +kernel)) ggX12_toldOf_X12_weighsOf
theorem dX12_toldOf_0 : decode cX12_toldOf 0 = .ok (.iload_n 2, 1) := by decide +kernel
theorem dX12_toldOf_1 : decode cX12_toldOf 1 = .ok (.tableswitch 101 0 5 #[39, 49, 59, 69, 79, 89], 39) := by decide +kernel
theorem dX12_toldOf_40 : decode cX12_toldOf 40 = .ok (.aload_n 0, 1) := by decide +kernel
theorem dX12_toldOf_41 : decode cX12_toldOf 41 = .ok (.getfield 7, 3) := by decide +kernel
theorem dX12_toldOf_44 : decode cX12_toldOf 44 = .ok (.bipush 28, 2) := by decide +kernel
theorem dX12_toldOf_46 : decode cX12_toldOf 46 = .ok (.iload_n 1, 1) := by decide +kernel
theorem dX12_toldOf_47 : decode cX12_toldOf 47 = .ok (.iadd, 1) := by decide +kernel
theorem dX12_toldOf_48 : decode cX12_toldOf 48 = .ok (.iaload, 1) := by decide +kernel
theorem dX12_toldOf_49 : decode cX12_toldOf 49 = .ok (.ireturn, 1) := by decide +kernel
theorem dX12_toldOf_50 : decode cX12_toldOf 50 = .ok (.aload_n 0, 1) := by decide +kernel
theorem dX12_toldOf_51 : decode cX12_toldOf 51 = .ok (.getfield 7, 3) := by decide +kernel
theorem dX12_toldOf_54 : decode cX12_toldOf 54 = .ok (.bipush 36, 2) := by decide +kernel
theorem dX12_toldOf_56 : decode cX12_toldOf 56 = .ok (.iload_n 1, 1) := by decide +kernel
theorem dX12_toldOf_57 : decode cX12_toldOf 57 = .ok (.iadd, 1) := by decide +kernel
theorem dX12_toldOf_58 : decode cX12_toldOf 58 = .ok (.iaload, 1) := by decide +kernel
theorem dX12_toldOf_59 : decode cX12_toldOf 59 = .ok (.ireturn, 1) := by decide +kernel
theorem dX12_toldOf_60 : decode cX12_toldOf 60 = .ok (.aload_n 0, 1) := by decide +kernel
theorem dX12_toldOf_61 : decode cX12_toldOf 61 = .ok (.getfield 7, 3) := by decide +kernel
theorem dX12_toldOf_64 : decode cX12_toldOf 64 = .ok (.bipush 44, 2) := by decide +kernel
theorem dX12_toldOf_66 : decode cX12_toldOf 66 = .ok (.iload_n 1, 1) := by decide +kernel
theorem dX12_toldOf_67 : decode cX12_toldOf 67 = .ok (.iadd, 1) := by decide +kernel
theorem dX12_toldOf_68 : decode cX12_toldOf 68 = .ok (.iaload, 1) := by decide +kernel
theorem dX12_toldOf_69 : decode cX12_toldOf 69 = .ok (.ireturn, 1) := by decide +kernel
theorem dX12_toldOf_70 : decode cX12_toldOf 70 = .ok (.aload_n 0, 1) := by decide +kernel
theorem dX12_toldOf_71 : decode cX12_toldOf 71 = .ok (.getfield 7, 3) := by decide +kernel
theorem dX12_toldOf_74 : decode cX12_toldOf 74 = .ok (.bipush 52, 2) := by decide +kernel
theorem dX12_toldOf_76 : decode cX12_toldOf 76 = .ok (.iload_n 1, 1) := by decide +kernel
theorem dX12_toldOf_77 : decode cX12_toldOf 77 = .ok (.iadd, 1) := by decide +kernel
theorem dX12_toldOf_78 : decode cX12_toldOf 78 = .ok (.iaload, 1) := by decide +kernel
theorem dX12_toldOf_79 : decode cX12_toldOf 79 = .ok (.ireturn, 1) := by decide +kernel
theorem dX12_toldOf_80 : decode cX12_toldOf 80 = .ok (.aload_n 0, 1) := by decide +kernel
theorem dX12_toldOf_81 : decode cX12_toldOf 81 = .ok (.getfield 7, 3) := by decide +kernel
theorem dX12_toldOf_84 : decode cX12_toldOf 84 = .ok (.bipush 12, 2) := by decide +kernel
theorem dX12_toldOf_86 : decode cX12_toldOf 86 = .ok (.iload_n 1, 1) := by decide +kernel
theorem dX12_toldOf_87 : decode cX12_toldOf 87 = .ok (.iadd, 1) := by decide +kernel
theorem dX12_toldOf_88 : decode cX12_toldOf 88 = .ok (.iaload, 1) := by decide +kernel
theorem dX12_toldOf_89 : decode cX12_toldOf 89 = .ok (.ireturn, 1) := by decide +kernel
theorem dX12_toldOf_90 : decode cX12_toldOf 90 = .ok (.aload_n 0, 1) := by decide +kernel
theorem dX12_toldOf_91 : decode cX12_toldOf 91 = .ok (.getfield 7, 3) := by decide +kernel
theorem dX12_toldOf_94 : decode cX12_toldOf 94 = .ok (.bipush 20, 2) := by decide +kernel
theorem dX12_toldOf_96 : decode cX12_toldOf 96 = .ok (.iaload, 1) := by decide +kernel
theorem dX12_toldOf_97 : decode cX12_toldOf 97 = .ok (.iload_n 1, 1) := by decide +kernel
theorem dX12_toldOf_98 : decode cX12_toldOf 98 = .ok (.ishr, 1) := by decide +kernel
theorem dX12_toldOf_99 : decode cX12_toldOf 99 = .ok (.iconst 1, 1) := by decide +kernel
theorem dX12_toldOf_100 : decode cX12_toldOf 100 = .ok (.iand, 1) := by decide +kernel
theorem dX12_toldOf_101 : decode cX12_toldOf 101 = .ok (.ireturn, 1) := by decide +kernel
theorem dX12_toldOf_102 : decode cX12_toldOf 102 = .ok (.aload_n 0, 1) := by decide +kernel
theorem dX12_toldOf_103 : decode cX12_toldOf 103 = .ok (.getfield 7, 3) := by decide +kernel
theorem dX12_toldOf_106 : decode cX12_toldOf 106 = .ok (.iload_n 1, 1) := by decide +kernel
theorem dX12_toldOf_107 : decode cX12_toldOf 107 = .ok (.invokestatic 99, 3) := by decide +kernel
theorem dX12_toldOf_110 : decode cX12_toldOf 110 = .ok (.ireturn, 1) := by decide +kernel
set_option maxRecDepth 20000 in
theorem ggX12_about_X12_isWrong : GoodIn wsX12_about wsX12_isWrong := goodIn_r _ [6, 7, 8, 9, 5, 10, 11, 12, 13, 14, 30, 31, 32, 33, 34, 35, 36, 37, 38, 39, 40, 41, 42, 43, 44, 45, 46, 47, 48] (by decide +kernel) (by decide +kernel)
set_option maxRecDepth 20000 in
theorem gX12_about_X12_isWrong : GoodIn wsX12_about (wsV RX12 118 RX12 yX12_isWrong wsX12_isWrong) := goodIn_app (goodIn_of _ (by decide +kernel)) ggX12_about_X12_isWrong
set_option maxRecDepth 20000 in
theorem ggX12_about_X12_in : GoodIn wsX12_about wsX12_in := goodIn_r _ [14] (by decide +kernel) (by decide +kernel)
set_option maxRecDepth 20000 in
theorem gX12_about_X12_in : GoodIn wsX12_about (va_wsS RX12 55 yX12_in wsX12_in) := goodIn_app (goodIn_of _ (by decide +kernel)) ggX12_about_X12_in
set_option maxRecDepth 20000 in
theorem ggX12_about_X12_toldOf : GoodIn wsX12_about wsX12_toldOf := goodIn_r _ [18, 11, 19, 20, 5, 21, 22, 23, 24, 30, 31, 32, 33, 34, 35, 36, 37, 38, 39, 40, 41, 42, 43, 44, 45, 46, 47, 48] (by decide +kernel) (by decide +kernel)
set_option maxRecDepth 20000 in
theorem gX12_about_X12_toldOf : GoodIn wsX12_about (wsV RX12 139 RX12 yX12_toldOf wsX12_toldOf) := goodIn_app (goodIn_of _ (by decide +kernel)) ggX12_about_X12_toldOf
set_option maxRecDepth 20000 in
theorem ggX12_about_X12_bad : GoodIn wsX12_about wsX12_bad := goodIn_r _ [28, 29, 30, 31, 32, 33, 34, 35, 36, 37, 38, 39, 40, 41, 42, 43, 44, 45, 46, 47, 48] (by decide +kernel) (by decide +kernel)
set_option maxRecDepth 20000 in
theorem gX12_about_X12_bad : GoodIn wsX12_about (wsV RX12 71 RX12 yX12_bad wsX12_bad) := goodIn_app (goodIn_of _ (by decide +kernel)) ggX12_about_X12_bad
theorem dX12_about_0 : decode cX12_about 0 = .ok (.aload_n 0, 1) := by decide +kernel
theorem dX12_about_1 : decode cX12_about 1 = .ok (.iload_n 1, 1) := by decide +kernel
theorem dX12_about_2 : decode cX12_about 2 = .ok (.invokevirtual 118, 3) := by decide +kernel
theorem dX12_about_5 : decode cX12_about 5 = .ok (.ifCond .eq 24, 3) := by decide +kernel
theorem dX12_about_8 : decode cX12_about 8 = .ok (.iload_n 2, 1) := by decide +kernel
theorem dX12_about_9 : decode cX12_about 9 = .ok (.i2l, 1) := by decide +kernel
theorem dX12_about_10 : decode cX12_about 10 = .ok (.lconst 0, 1) := by decide +kernel
theorem dX12_about_11 : decode cX12_about 11 = .ok (.ldc2_w 137, 3) := by decide +kernel
theorem dX12_about_14 : decode cX12_about 14 = .ok (.invokestatic 55, 3) := by decide +kernel
theorem dX12_about_17 : decode cX12_about 17 = .ok (.ifCond .eq 12, 3) := by decide +kernel
theorem dX12_about_20 : decode cX12_about 20 = .ok (.aload_n 0, 1) := by decide +kernel
theorem dX12_about_21 : decode cX12_about 21 = .ok (.iload_n 1, 1) := by decide +kernel
theorem dX12_about_22 : decode cX12_about 22 = .ok (.iload_n 2, 1) := by decide +kernel
theorem dX12_about_23 : decode cX12_about 23 = .ok (.invokevirtual 139, 3) := by decide +kernel
theorem dX12_about_26 : decode cX12_about 26 = .ok (.goto 9, 3) := by decide +kernel
theorem dX12_about_29 : decode cX12_about 29 = .ok (.aload_n 0, 1) := by decide +kernel
theorem dX12_about_30 : decode cX12_about 30 = .ok (.bipush (-2), 2) := by decide +kernel
theorem dX12_about_32 : decode cX12_about 32 = .ok (.invokevirtual 71, 3) := by decide +kernel
theorem dX12_about_35 : decode cX12_about 35 = .ok (.ireturn, 1) := by decide +kernel
set_option maxRecDepth 20000 in
theorem ggX12_may_X12_many : GoodIn wsX12_may wsX12_many := goodIn_r _ [6, 1, 25, 26, 27, 28, 29, 30, 31, 32, 33, 34, 35, 36, 37, 38, 39, 40, 41, 42, 43] (by decide +kernel) (by decide +kernel)
set_option maxRecDepth 20000 in
theorem gX12_may_X12_many : GoodIn wsX12_may (wsV RX12 59 RX12 yX12_many wsX12_many) := goodIn_app (goodIn_of _ (by decide +kernel)) ggX12_may_X12_many
set_option maxRecDepth 20000 in
theorem ggX12_may_X12_canOff : GoodIn wsX12_may wsX12_canOff := goodIn_r _ [9, 10, 11, 5, 12, 13, 14, 15, 16, 17, 18, 19, 20, 21, 22, 23, 24] (by decide +kernel) (by decide +kernel)
set_option maxRecDepth 20000 in
theorem gX12_may_X12_canOff : GoodIn wsX12_may (va_wsS RX12 121 yX12_canOff wsX12_canOff) := goodIn_app (goodIn_of _ (by decide +kernel)) ggX12_may_X12_canOff
theorem dX12_may_0 : decode cX12_may 0 = .ok (.iconst 0, 1) := by decide +kernel
theorem dX12_may_1 : decode cX12_may 1 = .ok (.istore_n 1, 1) := by decide +kernel
theorem dX12_may_2 : decode cX12_may 2 = .ok (.iconst 0, 1) := by decide +kernel
theorem dX12_may_3 : decode cX12_may 3 = .ok (.istore_n 2, 1) := by decide +kernel
theorem dX12_may_4 : decode cX12_may 4 = .ok (.iload_n 2, 1) := by decide +kernel
theorem dX12_may_5 : decode cX12_may 5 = .ok (.aload_n 0, 1) := by decide +kernel
theorem dX12_may_6 : decode cX12_may 6 = .ok (.invokevirtual 59, 3) := by decide +kernel
theorem dX12_may_9 : decode cX12_may 9 = .ok (.if_icmp .ge 30, 3) := by decide +kernel
theorem dX12_may_12 : decode cX12_may 12 = .ok (.iload_n 1, 1) := by decide +kernel
theorem dX12_may_13 : decode cX12_may 13 = .ok (.aload_n 0, 1) := by decide +kernel
theorem dX12_may_14 : decode cX12_may 14 = .ok (.getfield 7, 3) := by decide +kernel
theorem dX12_may_17 : decode cX12_may 17 = .ok (.iload_n 2, 1) := by decide +kernel
theorem dX12_may_18 : decode cX12_may 18 = .ok (.invokestatic 121, 3) := by decide +kernel
theorem dX12_may_21 : decode cX12_may 21 = .ok (.ifCond .eq 9, 3) := by decide +kernel
theorem dX12_may_24 : decode cX12_may 24 = .ok (.iconst 1, 1) := by decide +kernel
theorem dX12_may_25 : decode cX12_may 25 = .ok (.iload_n 2, 1) := by decide +kernel
theorem dX12_may_26 : decode cX12_may 26 = .ok (.ishl, 1) := by decide +kernel
theorem dX12_may_27 : decode cX12_may 27 = .ok (.goto 4, 3) := by decide +kernel
theorem dX12_may_30 : decode cX12_may 30 = .ok (.iconst 0, 1) := by decide +kernel
theorem dX12_may_31 : decode cX12_may 31 = .ok (.ior, 1) := by decide +kernel
theorem dX12_may_32 : decode cX12_may 32 = .ok (.istore_n 1, 1) := by decide +kernel
theorem dX12_may_33 : decode cX12_may 33 = .ok (.iinc 2 1, 3) := by decide +kernel
theorem dX12_may_36 : decode cX12_may 36 = .ok (.goto (-32), 3) := by decide +kernel
theorem dX12_may_39 : decode cX12_may 39 = .ok (.iload_n 1, 1) := by decide +kernel
theorem dX12_may_40 : decode cX12_may 40 = .ok (.ireturn, 1) := by decide +kernel
set_option maxRecDepth 20000 in
theorem ggX12_rungBy_X12_many : GoodIn wsX12_rungBy wsX12_many := goodIn_r _ [6, 1, 10, 11, 12, 13, 14, 15, 16, 17, 18, 19, 20, 21, 22, 23, 24, 25, 26, 27, 28] (by decide +kernel) (by decide +kernel)
set_option maxRecDepth 20000 in
theorem gX12_rungBy_X12_many : GoodIn wsX12_rungBy (wsV RX12 59 RX12 yX12_many wsX12_many) := goodIn_app (goodIn_of _ (by decide +kernel)) ggX12_rungBy_X12_many
set_option maxRecDepth 20000 in
theorem ggX12_rungBy_X12_has : GoodIn wsX12_rungBy wsX12_has := goodIn_r _ [9] (by decide +kernel) (by decide +kernel)
set_option maxRecDepth 20000 in
theorem gX12_rungBy_X12_has : GoodIn wsX12_rungBy (va_wsS RX12 95 yX12_has wsX12_has) := goodIn_app (goodIn_of _ (by decide +kernel)) ggX12_rungBy_X12_has
theorem dX12_rungBy_0 : decode cX12_rungBy 0 = .ok (.aload_n 0, 1) := by decide +kernel
theorem dX12_rungBy_1 : decode cX12_rungBy 1 = .ok (.getfield 7, 3) := by decide +kernel
theorem dX12_rungBy_4 : decode cX12_rungBy 4 = .ok (.bipush 6, 2) := by decide +kernel
theorem dX12_rungBy_6 : decode cX12_rungBy 6 = .ok (.iload_n 1, 1) := by decide +kernel
theorem dX12_rungBy_7 : decode cX12_rungBy 7 = .ok (.iadd, 1) := by decide +kernel
theorem dX12_rungBy_8 : decode cX12_rungBy 8 = .ok (.iaload, 1) := by decide +kernel
theorem dX12_rungBy_9 : decode cX12_rungBy 9 = .ok (.istore_n 3, 1) := by decide +kernel
theorem dX12_rungBy_10 : decode cX12_rungBy 10 = .ok (.iconst 0, 1) := by decide +kernel
theorem dX12_rungBy_11 : decode cX12_rungBy 11 = .ok (.istore 4, 2) := by decide +kernel
theorem dX12_rungBy_13 : decode cX12_rungBy 13 = .ok (.iload 4, 2) := by decide +kernel
theorem dX12_rungBy_15 : decode cX12_rungBy 15 = .ok (.aload_n 0, 1) := by decide +kernel
theorem dX12_rungBy_16 : decode cX12_rungBy 16 = .ok (.invokevirtual 59, 3) := by decide +kernel
theorem dX12_rungBy_19 : decode cX12_rungBy 19 = .ok (.if_icmp .ge 40, 3) := by decide +kernel
theorem dX12_rungBy_22 : decode cX12_rungBy 22 = .ok (.iload_n 3, 1) := by decide +kernel
theorem dX12_rungBy_23 : decode cX12_rungBy 23 = .ok (.iload_n 2, 1) := by decide +kernel
theorem dX12_rungBy_24 : decode cX12_rungBy 24 = .ok (.iload 4, 2) := by decide +kernel
theorem dX12_rungBy_26 : decode cX12_rungBy 26 = .ok (.invokestatic 95, 3) := by decide +kernel
theorem dX12_rungBy_29 : decode cX12_rungBy 29 = .ok (.ifCond .eq 21, 3) := by decide +kernel
theorem dX12_rungBy_32 : decode cX12_rungBy 32 = .ok (.aload_n 0, 1) := by decide +kernel
theorem dX12_rungBy_33 : decode cX12_rungBy 33 = .ok (.getfield 7, 3) := by decide +kernel
theorem dX12_rungBy_36 : decode cX12_rungBy 36 = .ok (.bipush 36, 2) := by decide +kernel
theorem dX12_rungBy_38 : decode cX12_rungBy 38 = .ok (.iload 4, 2) := by decide +kernel
theorem dX12_rungBy_40 : decode cX12_rungBy 40 = .ok (.iadd, 1) := by decide +kernel
theorem dX12_rungBy_41 : decode cX12_rungBy 41 = .ok (.iaload, 1) := by decide +kernel
theorem dX12_rungBy_42 : decode cX12_rungBy 42 = .ok (.iload_n 1, 1) := by decide +kernel
theorem dX12_rungBy_43 : decode cX12_rungBy 43 = .ok (.if_icmp .ne 7, 3) := by decide +kernel
theorem dX12_rungBy_46 : decode cX12_rungBy 46 = .ok (.iconst 1, 1) := by decide +kernel
theorem dX12_rungBy_47 : decode cX12_rungBy 47 = .ok (.goto 4, 3) := by decide +kernel
theorem dX12_rungBy_50 : decode cX12_rungBy 50 = .ok (.iconst 0, 1) := by decide +kernel
theorem dX12_rungBy_51 : decode cX12_rungBy 51 = .ok (.iadd, 1) := by decide +kernel
theorem dX12_rungBy_52 : decode cX12_rungBy 52 = .ok (.istore_n 3, 1) := by decide +kernel
theorem dX12_rungBy_53 : decode cX12_rungBy 53 = .ok (.iinc 4 1, 3) := by decide +kernel
theorem dX12_rungBy_56 : decode cX12_rungBy 56 = .ok (.goto (-43), 3) := by decide +kernel
theorem dX12_rungBy_59 : decode cX12_rungBy 59 = .ok (.iload_n 3, 1) := by decide +kernel
theorem dX12_rungBy_60 : decode cX12_rungBy 60 = .ok (.bipush 99, 2) := by decide +kernel
theorem dX12_rungBy_62 : decode cX12_rungBy 62 = .ok (.if_icmp .le 8, 3) := by decide +kernel
theorem dX12_rungBy_65 : decode cX12_rungBy 65 = .ok (.bipush 99, 2) := by decide +kernel
theorem dX12_rungBy_67 : decode cX12_rungBy 67 = .ok (.goto 4, 3) := by decide +kernel
theorem dX12_rungBy_70 : decode cX12_rungBy 70 = .ok (.iload_n 3, 1) := by decide +kernel
theorem dX12_rungBy_71 : decode cX12_rungBy 71 = .ok (.ireturn, 1) := by decide +kernel
set_option maxRecDepth 20000 in
theorem ggX12_canBy_X12_has : GoodIn wsX12_canBy wsX12_has := goodIn_r _ [5] (by decide +kernel) (by decide +kernel)
set_option maxRecDepth 20000 in
theorem gX12_canBy_X12_has : GoodIn wsX12_canBy (va_wsS RX12 95 yX12_has wsX12_has) := goodIn_app (goodIn_of _ (by decide +kernel)) ggX12_canBy_X12_has
set_option maxRecDepth 20000 in
theorem ggX12_canBy_X12_weighsOf : GoodIn wsX12_canBy wsX12_weighsOf := goodIn_r _ [8, 9, 10, 4, 11] (by decide +kernel) (by decide +kernel)
set_option maxRecDepth 20000 in
theorem gX12_canBy_X12_weighsOf : GoodIn wsX12_canBy (va_wsS RX12 99 yX12_weighsOf wsX12_weighsOf) := goodIn_app (goodIn_of _ (by decide +kernel)) ggX12_canBy_X12_weighsOf
set_option maxRecDepth 20000 in
theorem ggX12_canBy_X12_rungBy : GoodIn wsX12_canBy wsX12_rungBy := goodIn_r _ [15, 1, 16, 17, 18, 4, 19, 2, 3, 5, 23, 24, 25, 26, 27, 28, 29, 30, 31, 32, 33, 34, 35, 36, 37, 38, 39, 40, 41] (by decide +kernel) (by decide +kernel)
set_option maxRecDepth 20000 in
theorem gX12_canBy_X12_rungBy : GoodIn wsX12_canBy (wsV RX12 143 RX12 yX12_rungBy wsX12_rungBy) := goodIn_app (goodIn_of _ (by decide +kernel)) ggX12_canBy_X12_rungBy
set_option maxRecDepth 20000 in
theorem ggX12_canBy_X12_letsAs : GoodIn wsX12_canBy wsX12_letsAs := goodIn_r _ [22] (by decide +kernel) (by decide +kernel)
set_option maxRecDepth 20000 in
theorem gX12_canBy_X12_letsAs : GoodIn wsX12_canBy (va_wsS RX12 92 yX12_letsAs wsX12_letsAs) := goodIn_app (goodIn_of _ (by decide +kernel)) ggX12_canBy_X12_letsAs
theorem dX12_canBy_0 : decode cX12_canBy 0 = .ok (.aload_n 0, 1) := by decide +kernel
theorem dX12_canBy_1 : decode cX12_canBy 1 = .ok (.getfield 7, 3) := by decide +kernel
theorem dX12_canBy_4 : decode cX12_canBy 4 = .ok (.bipush 44, 2) := by decide +kernel
theorem dX12_canBy_6 : decode cX12_canBy 6 = .ok (.iload_n 1, 1) := by decide +kernel
theorem dX12_canBy_7 : decode cX12_canBy 7 = .ok (.iadd, 1) := by decide +kernel
theorem dX12_canBy_8 : decode cX12_canBy 8 = .ok (.iaload, 1) := by decide +kernel
theorem dX12_canBy_9 : decode cX12_canBy 9 = .ok (.istore_n 3, 1) := by decide +kernel
theorem dX12_canBy_10 : decode cX12_canBy 10 = .ok (.aload_n 0, 1) := by decide +kernel
theorem dX12_canBy_11 : decode cX12_canBy 11 = .ok (.getfield 7, 3) := by decide +kernel
theorem dX12_canBy_14 : decode cX12_canBy 14 = .ok (.bipush 20, 2) := by decide +kernel
theorem dX12_canBy_16 : decode cX12_canBy 16 = .ok (.iaload, 1) := by decide +kernel
theorem dX12_canBy_17 : decode cX12_canBy 17 = .ok (.iload_n 1, 1) := by decide +kernel
theorem dX12_canBy_18 : decode cX12_canBy 18 = .ok (.invokestatic 95, 3) := by decide +kernel
theorem dX12_canBy_21 : decode cX12_canBy 21 = .ok (.ifCond .ne 51, 3) := by decide +kernel
theorem dX12_canBy_24 : decode cX12_canBy 24 = .ok (.iload_n 2, 1) := by decide +kernel
theorem dX12_canBy_25 : decode cX12_canBy 25 = .ok (.iload_n 1, 1) := by decide +kernel
theorem dX12_canBy_26 : decode cX12_canBy 26 = .ok (.invokestatic 95, 3) := by decide +kernel
theorem dX12_canBy_29 : decode cX12_canBy 29 = .ok (.ifCond .ne 43, 3) := by decide +kernel
theorem dX12_canBy_32 : decode cX12_canBy 32 = .ok (.aload_n 0, 1) := by decide +kernel
theorem dX12_canBy_33 : decode cX12_canBy 33 = .ok (.getfield 7, 3) := by decide +kernel
theorem dX12_canBy_36 : decode cX12_canBy 36 = .ok (.iload_n 1, 1) := by decide +kernel
theorem dX12_canBy_37 : decode cX12_canBy 37 = .ok (.invokestatic 99, 3) := by decide +kernel
theorem dX12_canBy_40 : decode cX12_canBy 40 = .ok (.aload_n 0, 1) := by decide +kernel
theorem dX12_canBy_41 : decode cX12_canBy 41 = .ok (.getfield 7, 3) := by decide +kernel
theorem dX12_canBy_44 : decode cX12_canBy 44 = .ok (.bipush 22, 2) := by decide +kernel
theorem dX12_canBy_46 : decode cX12_canBy 46 = .ok (.iload_n 3, 1) := by decide +kernel
theorem dX12_canBy_47 : decode cX12_canBy 47 = .ok (.iadd, 1) := by decide +kernel
theorem dX12_canBy_48 : decode cX12_canBy 48 = .ok (.iaload, 1) := by decide +kernel
theorem dX12_canBy_49 : decode cX12_canBy 49 = .ok (.aload_n 0, 1) := by decide +kernel
theorem dX12_canBy_50 : decode cX12_canBy 50 = .ok (.iload_n 3, 1) := by decide +kernel
theorem dX12_canBy_51 : decode cX12_canBy 51 = .ok (.iload_n 2, 1) := by decide +kernel
theorem dX12_canBy_52 : decode cX12_canBy 52 = .ok (.invokevirtual 143, 3) := by decide +kernel
theorem dX12_canBy_55 : decode cX12_canBy 55 = .ok (.aload_n 0, 1) := by decide +kernel
theorem dX12_canBy_56 : decode cX12_canBy 56 = .ok (.getfield 7, 3) := by decide +kernel
theorem dX12_canBy_59 : decode cX12_canBy 59 = .ok (.bipush 21, 2) := by decide +kernel
theorem dX12_canBy_61 : decode cX12_canBy 61 = .ok (.iaload, 1) := by decide +kernel
theorem dX12_canBy_62 : decode cX12_canBy 62 = .ok (.invokestatic 92, 3) := by decide +kernel
theorem dX12_canBy_65 : decode cX12_canBy 65 = .ok (.if_icmp .gt 7, 3) := by decide +kernel
theorem dX12_canBy_68 : decode cX12_canBy 68 = .ok (.iconst 1, 1) := by decide +kernel
theorem dX12_canBy_69 : decode cX12_canBy 69 = .ok (.goto 4, 3) := by decide +kernel
theorem dX12_canBy_72 : decode cX12_canBy 72 = .ok (.iconst 0, 1) := by decide +kernel
theorem dX12_canBy_73 : decode cX12_canBy 73 = .ok (.ireturn, 1) := by decide +kernel
set_option maxRecDepth 20000 in
theorem ggX12_layCan_X12_many : GoodIn wsX12_layCan wsX12_many := goodIn_r _ [6, 7, 28, 29, 30, 31, 32, 33, 34, 35, 36, 37, 38, 39, 40, 41, 42, 43, 44, 45, 46] (by decide +kernel) (by decide +kernel)
set_option maxRecDepth 20000 in
theorem gX12_layCan_X12_many : GoodIn wsX12_layCan (wsV RX12 59 RX12 yX12_many wsX12_many) := goodIn_app (goodIn_of _ (by decide +kernel)) ggX12_layCan_X12_many
set_option maxRecDepth 20000 in
theorem ggX12_layCan_X12_canBy : GoodIn wsX12_layCan wsX12_canBy := goodIn_r _ [11, 7, 12, 13, 5, 14, 15, 16, 17, 18, 19, 20, 21, 22, 23, 24, 2, 3, 4, 6, 25, 26, 27, 28, 29, 30, 31, 32, 33, 34, 35, 36, 37, 38, 39, 40, 41, 42, 43, 44, 45, 46] (by decide +kernel) (by decide +kernel)
set_option maxRecDepth 20000 in
theorem gX12_layCan_X12_canBy : GoodIn wsX12_layCan (wsV RX12 146 RX12 yX12_canBy wsX12_canBy) := goodIn_app (goodIn_of _ (by decide +kernel)) ggX12_layCan_X12_canBy
theorem dX12_layCan_0 : decode cX12_layCan 0 = .ok (.iconst 0, 1) := by decide +kernel
theorem dX12_layCan_1 : decode cX12_layCan 1 = .ok (.istore_n 1, 1) := by decide +kernel
theorem dX12_layCan_2 : decode cX12_layCan 2 = .ok (.iload_n 1, 1) := by decide +kernel
theorem dX12_layCan_3 : decode cX12_layCan 3 = .ok (.iconst 1, 1) := by decide +kernel
theorem dX12_layCan_4 : decode cX12_layCan 4 = .ok (.aload_n 0, 1) := by decide +kernel
theorem dX12_layCan_5 : decode cX12_layCan 5 = .ok (.invokevirtual 59, 3) := by decide +kernel
theorem dX12_layCan_8 : decode cX12_layCan 8 = .ok (.ishl, 1) := by decide +kernel
theorem dX12_layCan_9 : decode cX12_layCan 9 = .ok (.if_icmp .ge 57, 3) := by decide +kernel
theorem dX12_layCan_12 : decode cX12_layCan 12 = .ok (.aload_n 0, 1) := by decide +kernel
theorem dX12_layCan_13 : decode cX12_layCan 13 = .ok (.getfield 27, 3) := by decide +kernel
theorem dX12_layCan_16 : decode cX12_layCan 16 = .ok (.iload_n 1, 1) := by decide +kernel
theorem dX12_layCan_17 : decode cX12_layCan 17 = .ok (.iconst 0, 1) := by decide +kernel
theorem dX12_layCan_18 : decode cX12_layCan 18 = .ok (.iastore, 1) := by decide +kernel
theorem dX12_layCan_19 : decode cX12_layCan 19 = .ok (.iconst 0, 1) := by decide +kernel
theorem dX12_layCan_20 : decode cX12_layCan 20 = .ok (.istore_n 2, 1) := by decide +kernel
theorem dX12_layCan_21 : decode cX12_layCan 21 = .ok (.iload_n 2, 1) := by decide +kernel
theorem dX12_layCan_22 : decode cX12_layCan 22 = .ok (.aload_n 0, 1) := by decide +kernel
theorem dX12_layCan_23 : decode cX12_layCan 23 = .ok (.invokevirtual 59, 3) := by decide +kernel
theorem dX12_layCan_26 : decode cX12_layCan 26 = .ok (.if_icmp .ge 34, 3) := by decide +kernel
theorem dX12_layCan_29 : decode cX12_layCan 29 = .ok (.aload_n 0, 1) := by decide +kernel
theorem dX12_layCan_30 : decode cX12_layCan 30 = .ok (.getfield 27, 3) := by decide +kernel
theorem dX12_layCan_33 : decode cX12_layCan 33 = .ok (.iload_n 1, 1) := by decide +kernel
theorem dX12_layCan_34 : decode cX12_layCan 34 = .ok (.dup2, 1) := by decide +kernel
theorem dX12_layCan_35 : decode cX12_layCan 35 = .ok (.iaload, 1) := by decide +kernel
theorem dX12_layCan_36 : decode cX12_layCan 36 = .ok (.aload_n 0, 1) := by decide +kernel
theorem dX12_layCan_37 : decode cX12_layCan 37 = .ok (.iload_n 2, 1) := by decide +kernel
theorem dX12_layCan_38 : decode cX12_layCan 38 = .ok (.iload_n 1, 1) := by decide +kernel
theorem dX12_layCan_39 : decode cX12_layCan 39 = .ok (.invokevirtual 146, 3) := by decide +kernel
theorem dX12_layCan_42 : decode cX12_layCan 42 = .ok (.ifCond .eq 9, 3) := by decide +kernel
theorem dX12_layCan_45 : decode cX12_layCan 45 = .ok (.iconst 1, 1) := by decide +kernel
theorem dX12_layCan_46 : decode cX12_layCan 46 = .ok (.iload_n 2, 1) := by decide +kernel
theorem dX12_layCan_47 : decode cX12_layCan 47 = .ok (.ishl, 1) := by decide +kernel
theorem dX12_layCan_48 : decode cX12_layCan 48 = .ok (.goto 4, 3) := by decide +kernel
theorem dX12_layCan_51 : decode cX12_layCan 51 = .ok (.iconst 0, 1) := by decide +kernel
theorem dX12_layCan_52 : decode cX12_layCan 52 = .ok (.ior, 1) := by decide +kernel
theorem dX12_layCan_53 : decode cX12_layCan 53 = .ok (.iastore, 1) := by decide +kernel
theorem dX12_layCan_54 : decode cX12_layCan 54 = .ok (.iinc 2 1, 3) := by decide +kernel
theorem dX12_layCan_57 : decode cX12_layCan 57 = .ok (.goto (-36), 3) := by decide +kernel
theorem dX12_layCan_60 : decode cX12_layCan 60 = .ok (.iinc 1 1, 3) := by decide +kernel
theorem dX12_layCan_63 : decode cX12_layCan 63 = .ok (.goto (-61), 3) := by decide +kernel
theorem dX12_layCan_66 : decode cX12_layCan 66 = .ok (.return_, 1) := by decide +kernel
set_option maxRecDepth 20000 in
theorem ggX12_peal_X12_layCan : GoodIn wsX12_peal wsX12_layCan := goodIn_r _ [7, 2, 8, 9, 10, 6, 11, 12, 13, 14, 15, 16, 17, 18, 19, 20, 21, 22, 23, 24, 25, 26, 27, 28, 29, 30, 31, 32, 33, 34, 35, 36, 37, 38, 39, 40, 41, 42, 43, 44, 45, 46, 47, 48, 49, 50, 51] (by decide +kernel) (by decide +kernel)
set_option maxRecDepth 20000 in
theorem gX12_peal_X12_layCan : GoodIn wsX12_peal (wsV RX12 149 RX12 yX12_layCan wsX12_layCan) := goodIn_app (goodIn_of _ (by decide +kernel)) ggX12_peal_X12_layCan
set_option maxRecDepth 20000 in
theorem ggX12_peal_X12_many : GoodIn wsX12_peal wsX12_many := goodIn_r _ [11, 12, 33, 34, 35, 36, 37, 38, 39, 40, 41, 42, 43, 44, 45, 46, 47, 48, 49, 50, 51] (by decide +kernel) (by decide +kernel)
set_option maxRecDepth 20000 in
theorem gX12_peal_X12_many : GoodIn wsX12_peal (wsV RX12 59 RX12 yX12_many wsX12_many) := goodIn_app (goodIn_of _ (by decide +kernel)) ggX12_peal_X12_many
set_option maxRecDepth 20000 in
theorem ggX12_peal_X12_has : GoodIn wsX12_peal wsX12_has := goodIn_r _ [19] (by decide +kernel) (by decide +kernel)
set_option maxRecDepth 20000 in
theorem gX12_peal_X12_has : GoodIn wsX12_peal (va_wsS RX12 95 yX12_has wsX12_has) := goodIn_app (goodIn_of _ (by decide +kernel)) ggX12_peal_X12_has
theorem dX12_peal_0 : decode cX12_peal 0 = .ok (.iconst 0, 1) := by decide +kernel
theorem dX12_peal_1 : decode cX12_peal 1 = .ok (.istore_n 1, 1) := by decide +kernel
theorem dX12_peal_2 : decode cX12_peal 2 = .ok (.aload_n 0, 1) := by decide +kernel
theorem dX12_peal_3 : decode cX12_peal 3 = .ok (.invokevirtual 149, 3) := by decide +kernel
theorem dX12_peal_6 : decode cX12_peal 6 = .ok (.iconst 0, 1) := by decide +kernel
theorem dX12_peal_7 : decode cX12_peal 7 = .ok (.istore_n 2, 1) := by decide +kernel
theorem dX12_peal_8 : decode cX12_peal 8 = .ok (.iload_n 2, 1) := by decide +kernel
theorem dX12_peal_9 : decode cX12_peal 9 = .ok (.iconst 1, 1) := by decide +kernel
theorem dX12_peal_10 : decode cX12_peal 10 = .ok (.aload_n 0, 1) := by decide +kernel
theorem dX12_peal_11 : decode cX12_peal 11 = .ok (.invokevirtual 59, 3) := by decide +kernel
theorem dX12_peal_14 : decode cX12_peal 14 = .ok (.ishl, 1) := by decide +kernel
theorem dX12_peal_15 : decode cX12_peal 15 = .ok (.if_icmp .ge 123, 3) := by decide +kernel
theorem dX12_peal_18 : decode cX12_peal 18 = .ok (.aload_n 0, 1) := by decide +kernel
theorem dX12_peal_19 : decode cX12_peal 19 = .ok (.getfield 30, 3) := by decide +kernel
theorem dX12_peal_22 : decode cX12_peal 22 = .ok (.iload_n 2, 1) := by decide +kernel
theorem dX12_peal_23 : decode cX12_peal 23 = .ok (.iload_n 2, 1) := by decide +kernel
theorem dX12_peal_24 : decode cX12_peal 24 = .ok (.ifCond .ne 7, 3) := by decide +kernel
theorem dX12_peal_27 : decode cX12_peal 27 = .ok (.iconst 1, 1) := by decide +kernel
theorem dX12_peal_28 : decode cX12_peal 28 = .ok (.goto 4, 3) := by decide +kernel
theorem dX12_peal_31 : decode cX12_peal 31 = .ok (.iconst 0, 1) := by decide +kernel
theorem dX12_peal_32 : decode cX12_peal 32 = .ok (.bastore, 1) := by decide +kernel
theorem dX12_peal_33 : decode cX12_peal 33 = .ok (.iconst 0, 1) := by decide +kernel
theorem dX12_peal_34 : decode cX12_peal 34 = .ok (.istore_n 3, 1) := by decide +kernel
theorem dX12_peal_35 : decode cX12_peal 35 = .ok (.iload_n 3, 1) := by decide +kernel
theorem dX12_peal_36 : decode cX12_peal 36 = .ok (.aload_n 0, 1) := by decide +kernel
theorem dX12_peal_37 : decode cX12_peal 37 = .ok (.invokevirtual 59, 3) := by decide +kernel
theorem dX12_peal_40 : decode cX12_peal 40 = .ok (.if_icmp .ge 70, 3) := by decide +kernel
theorem dX12_peal_43 : decode cX12_peal 43 = .ok (.iload_n 2, 1) := by decide +kernel
theorem dX12_peal_44 : decode cX12_peal 44 = .ok (.iconst 1, 1) := by decide +kernel
theorem dX12_peal_45 : decode cX12_peal 45 = .ok (.iload_n 3, 1) := by decide +kernel
theorem dX12_peal_46 : decode cX12_peal 46 = .ok (.ishl, 1) := by decide +kernel
theorem dX12_peal_47 : decode cX12_peal 47 = .ok (.iconst (-1), 1) := by decide +kernel
theorem dX12_peal_48 : decode cX12_peal 48 = .ok (.ixor, 1) := by decide +kernel
theorem dX12_peal_49 : decode cX12_peal 49 = .ok (.iand, 1) := by decide +kernel
theorem dX12_peal_50 : decode cX12_peal 50 = .ok (.istore 4, 2) := by decide +kernel
theorem dX12_peal_52 : decode cX12_peal 52 = .ok (.aload_n 0, 1) := by decide +kernel
theorem dX12_peal_53 : decode cX12_peal 53 = .ok (.getfield 30, 3) := by decide +kernel
theorem dX12_peal_56 : decode cX12_peal 56 = .ok (.iload_n 2, 1) := by decide +kernel
theorem dX12_peal_57 : decode cX12_peal 57 = .ok (.aload_n 0, 1) := by decide +kernel
theorem dX12_peal_58 : decode cX12_peal 58 = .ok (.getfield 30, 3) := by decide +kernel
theorem dX12_peal_61 : decode cX12_peal 61 = .ok (.iload_n 2, 1) := by decide +kernel
theorem dX12_peal_62 : decode cX12_peal 62 = .ok (.baload, 1) := by decide +kernel
theorem dX12_peal_63 : decode cX12_peal 63 = .ok (.ifCond .ne 35, 3) := by decide +kernel
theorem dX12_peal_66 : decode cX12_peal 66 = .ok (.iload_n 2, 1) := by decide +kernel
theorem dX12_peal_67 : decode cX12_peal 67 = .ok (.iload_n 3, 1) := by decide +kernel
theorem dX12_peal_68 : decode cX12_peal 68 = .ok (.invokestatic 95, 3) := by decide +kernel
theorem dX12_peal_71 : decode cX12_peal 71 = .ok (.ifCond .eq 31, 3) := by decide +kernel
theorem dX12_peal_74 : decode cX12_peal 74 = .ok (.aload_n 0, 1) := by decide +kernel
theorem dX12_peal_75 : decode cX12_peal 75 = .ok (.getfield 30, 3) := by decide +kernel
theorem dX12_peal_78 : decode cX12_peal 78 = .ok (.iload 4, 2) := by decide +kernel
theorem dX12_peal_80 : decode cX12_peal 80 = .ok (.baload, 1) := by decide +kernel
theorem dX12_peal_81 : decode cX12_peal 81 = .ok (.ifCond .eq 21, 3) := by decide +kernel
theorem dX12_peal_84 : decode cX12_peal 84 = .ok (.aload_n 0, 1) := by decide +kernel
theorem dX12_peal_85 : decode cX12_peal 85 = .ok (.getfield 27, 3) := by decide +kernel
theorem dX12_peal_88 : decode cX12_peal 88 = .ok (.iload 4, 2) := by decide +kernel
theorem dX12_peal_90 : decode cX12_peal 90 = .ok (.iaload, 1) := by decide +kernel
theorem dX12_peal_91 : decode cX12_peal 91 = .ok (.iload_n 3, 1) := by decide +kernel
theorem dX12_peal_92 : decode cX12_peal 92 = .ok (.invokestatic 95, 3) := by decide +kernel
theorem dX12_peal_95 : decode cX12_peal 95 = .ok (.ifCond .eq 7, 3) := by decide +kernel
theorem dX12_peal_98 : decode cX12_peal 98 = .ok (.iconst 1, 1) := by decide +kernel
theorem dX12_peal_99 : decode cX12_peal 99 = .ok (.goto 4, 3) := by decide +kernel
theorem dX12_peal_102 : decode cX12_peal 102 = .ok (.iconst 0, 1) := by decide +kernel
theorem dX12_peal_103 : decode cX12_peal 103 = .ok (.bastore, 1) := by decide +kernel
theorem dX12_peal_104 : decode cX12_peal 104 = .ok (.iinc 3 1, 3) := by decide +kernel
theorem dX12_peal_107 : decode cX12_peal 107 = .ok (.goto (-72), 3) := by decide +kernel
theorem dX12_peal_110 : decode cX12_peal 110 = .ok (.iload_n 1, 1) := by decide +kernel
theorem dX12_peal_111 : decode cX12_peal 111 = .ok (.aload_n 0, 1) := by decide +kernel
theorem dX12_peal_112 : decode cX12_peal 112 = .ok (.getfield 30, 3) := by decide +kernel
theorem dX12_peal_115 : decode cX12_peal 115 = .ok (.iload_n 2, 1) := by decide +kernel
theorem dX12_peal_116 : decode cX12_peal 116 = .ok (.baload, 1) := by decide +kernel
theorem dX12_peal_117 : decode cX12_peal 117 = .ok (.ifCond .eq 12, 3) := by decide +kernel
theorem dX12_peal_120 : decode cX12_peal 120 = .ok (.aload_n 0, 1) := by decide +kernel
theorem dX12_peal_121 : decode cX12_peal 121 = .ok (.getfield 27, 3) := by decide +kernel
theorem dX12_peal_124 : decode cX12_peal 124 = .ok (.iload_n 2, 1) := by decide +kernel
theorem dX12_peal_125 : decode cX12_peal 125 = .ok (.iaload, 1) := by decide +kernel
theorem dX12_peal_126 : decode cX12_peal 126 = .ok (.goto 4, 3) := by decide +kernel
theorem dX12_peal_129 : decode cX12_peal 129 = .ok (.iconst 0, 1) := by decide +kernel
theorem dX12_peal_130 : decode cX12_peal 130 = .ok (.ior, 1) := by decide +kernel
theorem dX12_peal_131 : decode cX12_peal 131 = .ok (.istore_n 1, 1) := by decide +kernel
theorem dX12_peal_132 : decode cX12_peal 132 = .ok (.iinc 2 1, 3) := by decide +kernel
theorem dX12_peal_135 : decode cX12_peal 135 = .ok (.goto (-127), 3) := by decide +kernel
theorem dX12_peal_138 : decode cX12_peal 138 = .ok (.iload_n 1, 1) := by decide +kernel
theorem dX12_peal_139 : decode cX12_peal 139 = .ok (.ireturn, 1) := by decide +kernel
theorem dX12_layHand_0 : decode cX12_layHand 0 = .ok (.iconst 0, 1) := by decide +kernel
theorem dX12_layHand_1 : decode cX12_layHand 1 = .ok (.istore_n 1, 1) := by decide +kernel
theorem dX12_layHand_2 : decode cX12_layHand 2 = .ok (.iload_n 1, 1) := by decide +kernel
theorem dX12_layHand_3 : decode cX12_layHand 3 = .ok (.bipush 60, 2) := by decide +kernel
theorem dX12_layHand_5 : decode cX12_layHand 5 = .ok (.if_icmp .ge 21, 3) := by decide +kernel
theorem dX12_layHand_8 : decode cX12_layHand 8 = .ok (.aload_n 0, 1) := by decide +kernel
theorem dX12_layHand_9 : decode cX12_layHand 9 = .ok (.getfield 33, 3) := by decide +kernel
theorem dX12_layHand_12 : decode cX12_layHand 12 = .ok (.iload_n 1, 1) := by decide +kernel
theorem dX12_layHand_13 : decode cX12_layHand 13 = .ok (.aload_n 0, 1) := by decide +kernel
theorem dX12_layHand_14 : decode cX12_layHand 14 = .ok (.getfield 7, 3) := by decide +kernel
theorem dX12_layHand_17 : decode cX12_layHand 17 = .ok (.iload_n 1, 1) := by decide +kernel
theorem dX12_layHand_18 : decode cX12_layHand 18 = .ok (.iaload, 1) := by decide +kernel
theorem dX12_layHand_19 : decode cX12_layHand 19 = .ok (.iastore, 1) := by decide +kernel
theorem dX12_layHand_20 : decode cX12_layHand 20 = .ok (.iinc 1 1, 3) := by decide +kernel
theorem dX12_layHand_23 : decode cX12_layHand 23 = .ok (.goto (-21), 3) := by decide +kernel
theorem dX12_layHand_26 : decode cX12_layHand 26 = .ok (.return_, 1) := by decide +kernel
set_option maxRecDepth 20000 in
theorem ggX12_when_X12_isWrong : GoodIn wsX12_when wsX12_isWrong := goodIn_r _ [6, 7, 8, 9, 5, 10, 11, 12, 13, 14, 45, 46, 47, 48, 49, 50, 51, 52, 53, 54, 55, 56, 57, 58, 59, 60, 61, 62, 63] (by decide +kernel) (by decide +kernel)
set_option maxRecDepth 20000 in
theorem gX12_when_X12_isWrong : GoodIn wsX12_when (wsV RX12 118 RX12 yX12_isWrong wsX12_isWrong) := goodIn_app (goodIn_of _ (by decide +kernel)) ggX12_when_X12_isWrong
set_option maxRecDepth 20000 in
theorem ggX12_when_X12_bad : GoodIn wsX12_when wsX12_bad := goodIn_r _ [18, 19, 45, 46, 47, 48, 49, 50, 51, 52, 53, 54, 55, 56, 57, 58, 59, 60, 61, 62, 63] (by decide +kernel) (by decide +kernel)
set_option maxRecDepth 20000 in
theorem gX12_when_X12_bad : GoodIn wsX12_when (wsV RX12 71 RX12 yX12_bad wsX12_bad) := goodIn_app (goodIn_of _ (by decide +kernel)) ggX12_when_X12_bad
set_option maxRecDepth 20000 in
theorem ggX12_when_X12_layHand : GoodIn wsX12_when wsX12_layHand := goodIn_r _ [23, 1, 11, 45, 46, 47, 48, 49, 50, 51, 52, 53, 54, 55, 56, 57, 58, 59, 60, 61, 62, 63] (by decide +kernel) (by decide +kernel)
set_option maxRecDepth 20000 in
theorem gX12_when_X12_layHand : GoodIn wsX12_when (wsV RX12 152 RX12 yX12_layHand wsX12_layHand) := goodIn_app (goodIn_of _ (by decide +kernel)) ggX12_when_X12_layHand
set_option maxRecDepth 20000 in
theorem ggX12_when_X12_canOff : GoodIn wsX12_when wsX12_canOff := goodIn_r _ [26, 27, 28, 5, 29, 30, 31, 32, 33, 34, 35, 36, 37, 38, 39, 40, 41] (by decide +kernel) (by decide +kernel)
set_option maxRecDepth 20000 in
theorem gX12_when_X12_canOff : GoodIn wsX12_when (va_wsS RX12 121 yX12_canOff wsX12_canOff) := goodIn_app (goodIn_of _ (by decide +kernel)) ggX12_when_X12_canOff
set_option maxRecDepth 20000 in
theorem ggX12_when_X12_goDay : GoodIn wsX12_when wsX12_goDay := goodIn_r _ [44, 27, 28, 5, 29] (by decide +kernel) (by decide +kernel)
set_option maxRecDepth 20000 in
theorem gX12_when_X12_goDay : GoodIn wsX12_when (va_wsS RX12 106 yX12_goDay wsX12_goDay) := goodIn_app (goodIn_of _ (by decide +kernel)) ggX12_when_X12_goDay
theorem dX12_when_0 : decode cX12_when 0 = .ok (.aload_n 0, 1) := by decide +kernel
theorem dX12_when_1 : decode cX12_when 1 = .ok (.iload_n 1, 1) := by decide +kernel
theorem dX12_when_2 : decode cX12_when 2 = .ok (.invokevirtual 118, 3) := by decide +kernel
theorem dX12_when_5 : decode cX12_when 5 = .ok (.ifCond .ne 10, 3) := by decide +kernel
theorem dX12_when_8 : decode cX12_when 8 = .ok (.aload_n 0, 1) := by decide +kernel
theorem dX12_when_9 : decode cX12_when 9 = .ok (.bipush (-2), 2) := by decide +kernel
theorem dX12_when_11 : decode cX12_when 11 = .ok (.invokevirtual 71, 3) := by decide +kernel
theorem dX12_when_14 : decode cX12_when 14 = .ok (.ireturn, 1) := by decide +kernel
theorem dX12_when_15 : decode cX12_when 15 = .ok (.aload_n 0, 1) := by decide +kernel
theorem dX12_when_16 : decode cX12_when 16 = .ok (.invokevirtual 152, 3) := by decide +kernel
theorem dX12_when_19 : decode cX12_when 19 = .ok (.iconst 0, 1) := by decide +kernel
theorem dX12_when_20 : decode cX12_when 20 = .ok (.istore_n 2, 1) := by decide +kernel
theorem dX12_when_21 : decode cX12_when 21 = .ok (.iload_n 2, 1) := by decide +kernel
theorem dX12_when_22 : decode cX12_when 22 = .ok (.bipush 60, 2) := by decide +kernel
theorem dX12_when_24 : decode cX12_when 24 = .ok (.if_icmp .gt 29, 3) := by decide +kernel
theorem dX12_when_27 : decode cX12_when 27 = .ok (.aload_n 0, 1) := by decide +kernel
theorem dX12_when_28 : decode cX12_when 28 = .ok (.getfield 33, 3) := by decide +kernel
theorem dX12_when_31 : decode cX12_when 31 = .ok (.iload_n 1, 1) := by decide +kernel
theorem dX12_when_32 : decode cX12_when 32 = .ok (.invokestatic 121, 3) := by decide +kernel
theorem dX12_when_35 : decode cX12_when 35 = .ok (.ifCond .eq 5, 3) := by decide +kernel
theorem dX12_when_38 : decode cX12_when 38 = .ok (.iload_n 2, 1) := by decide +kernel
theorem dX12_when_39 : decode cX12_when 39 = .ok (.ireturn, 1) := by decide +kernel
theorem dX12_when_40 : decode cX12_when 40 = .ok (.aload_n 0, 1) := by decide +kernel
theorem dX12_when_41 : decode cX12_when 41 = .ok (.getfield 33, 3) := by decide +kernel
theorem dX12_when_44 : decode cX12_when 44 = .ok (.invokestatic 106, 3) := by decide +kernel
theorem dX12_when_47 : decode cX12_when 47 = .ok (.iinc 2 1, 3) := by decide +kernel
theorem dX12_when_50 : decode cX12_when 50 = .ok (.goto (-29), 3) := by decide +kernel
theorem dX12_when_53 : decode cX12_when 53 = .ok (.iconst (-1), 1) := by decide +kernel
theorem dX12_when_54 : decode cX12_when 54 = .ok (.ireturn, 1) := by decide +kernel
set_option maxRecDepth 20000 in
theorem ggX12_layFewest_X12_many : GoodIn wsX12_layFewest wsX12_many := goodIn_r _ [8, 9, 13, 14, 15, 16, 17, 18, 19, 20, 21, 22, 23, 24, 25, 26, 27, 28, 29, 30, 31] (by decide +kernel) (by decide +kernel)
set_option maxRecDepth 20000 in
theorem gX12_layFewest_X12_many : GoodIn wsX12_layFewest (wsV RX12 59 RX12 yX12_many wsX12_many) := goodIn_app (goodIn_of _ (by decide +kernel)) ggX12_layFewest_X12_many
set_option maxRecDepth 20000 in
theorem ggX12_layFewest_X12_has : GoodIn wsX12_layFewest wsX12_has := goodIn_r _ [12] (by decide +kernel) (by decide +kernel)
set_option maxRecDepth 20000 in
theorem gX12_layFewest_X12_has : GoodIn wsX12_layFewest (va_wsS RX12 95 yX12_has wsX12_has) := goodIn_app (goodIn_of _ (by decide +kernel)) ggX12_layFewest_X12_has
theorem dX12_layFewest_0 : decode cX12_layFewest 0 = .ok (.iconst 1, 1) := by decide +kernel
theorem dX12_layFewest_1 : decode cX12_layFewest 1 = .ok (.aload_n 0, 1) := by decide +kernel
theorem dX12_layFewest_2 : decode cX12_layFewest 2 = .ok (.invokevirtual 59, 3) := by decide +kernel
theorem dX12_layFewest_5 : decode cX12_layFewest 5 = .ok (.ishl, 1) := by decide +kernel
theorem dX12_layFewest_6 : decode cX12_layFewest 6 = .ok (.iconst 1, 1) := by decide +kernel
theorem dX12_layFewest_7 : decode cX12_layFewest 7 = .ok (.isub, 1) := by decide +kernel
theorem dX12_layFewest_8 : decode cX12_layFewest 8 = .ok (.istore_n 3, 1) := by decide +kernel
theorem dX12_layFewest_9 : decode cX12_layFewest 9 = .ok (.iload_n 3, 1) := by decide +kernel
theorem dX12_layFewest_10 : decode cX12_layFewest 10 = .ok (.ifCond .lt 134, 3) := by decide +kernel
theorem dX12_layFewest_13 : decode cX12_layFewest 13 = .ok (.aload_n 0, 1) := by decide +kernel
theorem dX12_layFewest_14 : decode cX12_layFewest 14 = .ok (.getfield 36, 3) := by decide +kernel
theorem dX12_layFewest_17 : decode cX12_layFewest 17 = .ok (.iload_n 3, 1) := by decide +kernel
theorem dX12_layFewest_18 : decode cX12_layFewest 18 = .ok (.aload_n 0, 1) := by decide +kernel
theorem dX12_layFewest_19 : decode cX12_layFewest 19 = .ok (.getfield 27, 3) := by decide +kernel
theorem dX12_layFewest_22 : decode cX12_layFewest 22 = .ok (.iload_n 3, 1) := by decide +kernel
theorem dX12_layFewest_23 : decode cX12_layFewest 23 = .ok (.iaload, 1) := by decide +kernel
theorem dX12_layFewest_24 : decode cX12_layFewest 24 = .ok (.iload_n 1, 1) := by decide +kernel
theorem dX12_layFewest_25 : decode cX12_layFewest 25 = .ok (.invokestatic 95, 3) := by decide +kernel
theorem dX12_layFewest_28 : decode cX12_layFewest 28 = .ok (.ifCond .eq 7, 3) := by decide +kernel
theorem dX12_layFewest_31 : decode cX12_layFewest 31 = .ok (.iconst 1, 1) := by decide +kernel
theorem dX12_layFewest_32 : decode cX12_layFewest 32 = .ok (.goto 5, 3) := by decide +kernel
theorem dX12_layFewest_35 : decode cX12_layFewest 35 = .ok (.ldc 155, 2) := by decide +kernel
theorem dX12_layFewest_37 : decode cX12_layFewest 37 = .ok (.iastore, 1) := by decide +kernel
theorem dX12_layFewest_38 : decode cX12_layFewest 38 = .ok (.iconst 0, 1) := by decide +kernel
theorem dX12_layFewest_39 : decode cX12_layFewest 39 = .ok (.istore 4, 2) := by decide +kernel
theorem dX12_layFewest_41 : decode cX12_layFewest 41 = .ok (.iload 4, 2) := by decide +kernel
theorem dX12_layFewest_43 : decode cX12_layFewest 43 = .ok (.aload_n 0, 1) := by decide +kernel
theorem dX12_layFewest_44 : decode cX12_layFewest 44 = .ok (.invokevirtual 59, 3) := by decide +kernel
theorem dX12_layFewest_47 : decode cX12_layFewest 47 = .ok (.if_icmp .ge 91, 3) := by decide +kernel
theorem dX12_layFewest_50 : decode cX12_layFewest 50 = .ok (.aload_n 0, 1) := by decide +kernel
theorem dX12_layFewest_51 : decode cX12_layFewest 51 = .ok (.getfield 36, 3) := by decide +kernel
theorem dX12_layFewest_54 : decode cX12_layFewest 54 = .ok (.iload_n 3, 1) := by decide +kernel
theorem dX12_layFewest_55 : decode cX12_layFewest 55 = .ok (.iaload, 1) := by decide +kernel
theorem dX12_layFewest_56 : decode cX12_layFewest 56 = .ok (.iconst 1, 1) := by decide +kernel
theorem dX12_layFewest_57 : decode cX12_layFewest 57 = .ok (.if_icmp .le 81, 3) := by decide +kernel
theorem dX12_layFewest_60 : decode cX12_layFewest 60 = .ok (.iload 4, 2) := by decide +kernel
theorem dX12_layFewest_62 : decode cX12_layFewest 62 = .ok (.iload_n 1, 1) := by decide +kernel
theorem dX12_layFewest_63 : decode cX12_layFewest 63 = .ok (.if_icmp .eq 69, 3) := by decide +kernel
theorem dX12_layFewest_66 : decode cX12_layFewest 66 = .ok (.aload_n 0, 1) := by decide +kernel
theorem dX12_layFewest_67 : decode cX12_layFewest 67 = .ok (.getfield 27, 3) := by decide +kernel
theorem dX12_layFewest_70 : decode cX12_layFewest 70 = .ok (.iload_n 3, 1) := by decide +kernel
theorem dX12_layFewest_71 : decode cX12_layFewest 71 = .ok (.iaload, 1) := by decide +kernel
theorem dX12_layFewest_72 : decode cX12_layFewest 72 = .ok (.iload 4, 2) := by decide +kernel
theorem dX12_layFewest_74 : decode cX12_layFewest 74 = .ok (.invokestatic 95, 3) := by decide +kernel
theorem dX12_layFewest_77 : decode cX12_layFewest 77 = .ok (.ifCond .eq 55, 3) := by decide +kernel
theorem dX12_layFewest_80 : decode cX12_layFewest 80 = .ok (.iload_n 2, 1) := by decide +kernel
theorem dX12_layFewest_81 : decode cX12_layFewest 81 = .ok (.iload 4, 2) := by decide +kernel
theorem dX12_layFewest_83 : decode cX12_layFewest 83 = .ok (.invokestatic 95, 3) := by decide +kernel
theorem dX12_layFewest_86 : decode cX12_layFewest 86 = .ok (.ifCond .ne 46, 3) := by decide +kernel
theorem dX12_layFewest_89 : decode cX12_layFewest 89 = .ok (.iconst 1, 1) := by decide +kernel
theorem dX12_layFewest_90 : decode cX12_layFewest 90 = .ok (.aload_n 0, 1) := by decide +kernel
theorem dX12_layFewest_91 : decode cX12_layFewest 91 = .ok (.getfield 36, 3) := by decide +kernel
theorem dX12_layFewest_94 : decode cX12_layFewest 94 = .ok (.iload_n 3, 1) := by decide +kernel
theorem dX12_layFewest_95 : decode cX12_layFewest 95 = .ok (.iconst 1, 1) := by decide +kernel
theorem dX12_layFewest_96 : decode cX12_layFewest 96 = .ok (.iload 4, 2) := by decide +kernel
theorem dX12_layFewest_98 : decode cX12_layFewest 98 = .ok (.ishl, 1) := by decide +kernel
theorem dX12_layFewest_99 : decode cX12_layFewest 99 = .ok (.ior, 1) := by decide +kernel
theorem dX12_layFewest_100 : decode cX12_layFewest 100 = .ok (.iaload, 1) := by decide +kernel
theorem dX12_layFewest_101 : decode cX12_layFewest 101 = .ok (.iadd, 1) := by decide +kernel
theorem dX12_layFewest_102 : decode cX12_layFewest 102 = .ok (.istore 5, 2) := by decide +kernel
theorem dX12_layFewest_104 : decode cX12_layFewest 104 = .ok (.aload_n 0, 1) := by decide +kernel
theorem dX12_layFewest_105 : decode cX12_layFewest 105 = .ok (.getfield 36, 3) := by decide +kernel
theorem dX12_layFewest_108 : decode cX12_layFewest 108 = .ok (.iload_n 3, 1) := by decide +kernel
theorem dX12_layFewest_109 : decode cX12_layFewest 109 = .ok (.iload 5, 2) := by decide +kernel
theorem dX12_layFewest_111 : decode cX12_layFewest 111 = .ok (.aload_n 0, 1) := by decide +kernel
theorem dX12_layFewest_112 : decode cX12_layFewest 112 = .ok (.getfield 36, 3) := by decide +kernel
theorem dX12_layFewest_115 : decode cX12_layFewest 115 = .ok (.iload_n 3, 1) := by decide +kernel
theorem dX12_layFewest_116 : decode cX12_layFewest 116 = .ok (.iaload, 1) := by decide +kernel
theorem dX12_layFewest_117 : decode cX12_layFewest 117 = .ok (.if_icmp .ge 8, 3) := by decide +kernel
theorem dX12_layFewest_120 : decode cX12_layFewest 120 = .ok (.iload 5, 2) := by decide +kernel
theorem dX12_layFewest_122 : decode cX12_layFewest 122 = .ok (.goto 9, 3) := by decide +kernel
theorem dX12_layFewest_125 : decode cX12_layFewest 125 = .ok (.aload_n 0, 1) := by decide +kernel
theorem dX12_layFewest_126 : decode cX12_layFewest 126 = .ok (.getfield 36, 3) := by decide +kernel
theorem dX12_layFewest_129 : decode cX12_layFewest 129 = .ok (.iload_n 3, 1) := by decide +kernel
theorem dX12_layFewest_130 : decode cX12_layFewest 130 = .ok (.iaload, 1) := by decide +kernel
theorem dX12_layFewest_131 : decode cX12_layFewest 131 = .ok (.iastore, 1) := by decide +kernel
theorem dX12_layFewest_132 : decode cX12_layFewest 132 = .ok (.iinc 4 1, 3) := by decide +kernel
theorem dX12_layFewest_135 : decode cX12_layFewest 135 = .ok (.goto (-94), 3) := by decide +kernel
theorem dX12_layFewest_138 : decode cX12_layFewest 138 = .ok (.iinc 3 (-1), 3) := by decide +kernel
theorem dX12_layFewest_141 : decode cX12_layFewest 141 = .ok (.goto (-132), 3) := by decide +kernel
theorem dX12_layFewest_144 : decode cX12_layFewest 144 = .ok (.return_, 1) := by decide +kernel
set_option maxRecDepth 20000 in
theorem ggX12_strokeAt_X12_has : GoodIn wsX12_strokeAt wsX12_has := goodIn_r _ [6] (by decide +kernel) (by decide +kernel)
set_option maxRecDepth 20000 in
theorem gX12_strokeAt_X12_has : GoodIn wsX12_strokeAt (va_wsS RX12 95 yX12_has wsX12_has) := goodIn_app (goodIn_of _ (by decide +kernel)) ggX12_strokeAt_X12_has
theorem dX12_strokeAt_0 : decode cX12_strokeAt 0 = .ok (.iconst 0, 1) := by decide +kernel
theorem dX12_strokeAt_1 : decode cX12_strokeAt 1 = .ok (.istore_n 3, 1) := by decide +kernel
theorem dX12_strokeAt_2 : decode cX12_strokeAt 2 = .ok (.iload_n 1, 1) := by decide +kernel
theorem dX12_strokeAt_3 : decode cX12_strokeAt 3 = .ok (.istore 4, 2) := by decide +kernel
theorem dX12_strokeAt_5 : decode cX12_strokeAt 5 = .ok (.iconst 0, 1) := by decide +kernel
theorem dX12_strokeAt_6 : decode cX12_strokeAt 6 = .ok (.istore 5, 2) := by decide +kernel
theorem dX12_strokeAt_8 : decode cX12_strokeAt 8 = .ok (.iload 5, 2) := by decide +kernel
theorem dX12_strokeAt_10 : decode cX12_strokeAt 10 = .ok (.iload_n 2, 1) := by decide +kernel
theorem dX12_strokeAt_11 : decode cX12_strokeAt 11 = .ok (.if_icmp .gt 80, 3) := by decide +kernel
theorem dX12_strokeAt_14 : decode cX12_strokeAt 14 = .ok (.iload_n 1, 1) := by decide +kernel
theorem dX12_strokeAt_15 : decode cX12_strokeAt 15 = .ok (.istore 4, 2) := by decide +kernel
theorem dX12_strokeAt_17 : decode cX12_strokeAt 17 = .ok (.aload_n 0, 1) := by decide +kernel
theorem dX12_strokeAt_18 : decode cX12_strokeAt 18 = .ok (.getfield 36, 3) := by decide +kernel
theorem dX12_strokeAt_21 : decode cX12_strokeAt 21 = .ok (.iload_n 3, 1) := by decide +kernel
theorem dX12_strokeAt_22 : decode cX12_strokeAt 22 = .ok (.iaload, 1) := by decide +kernel
theorem dX12_strokeAt_23 : decode cX12_strokeAt 23 = .ok (.iconst 1, 1) := by decide +kernel
theorem dX12_strokeAt_24 : decode cX12_strokeAt 24 = .ok (.if_icmp .le 54, 3) := by decide +kernel
theorem dX12_strokeAt_27 : decode cX12_strokeAt 27 = .ok (.iconst 0, 1) := by decide +kernel
theorem dX12_strokeAt_28 : decode cX12_strokeAt 28 = .ok (.istore 4, 2) := by decide +kernel
theorem dX12_strokeAt_30 : decode cX12_strokeAt 30 = .ok (.iload 4, 2) := by decide +kernel
theorem dX12_strokeAt_32 : decode cX12_strokeAt 32 = .ok (.iload_n 1, 1) := by decide +kernel
theorem dX12_strokeAt_33 : decode cX12_strokeAt 33 = .ok (.if_icmp .eq 39, 3) := by decide +kernel
theorem dX12_strokeAt_36 : decode cX12_strokeAt 36 = .ok (.aload_n 0, 1) := by decide +kernel
theorem dX12_strokeAt_37 : decode cX12_strokeAt 37 = .ok (.getfield 27, 3) := by decide +kernel
theorem dX12_strokeAt_40 : decode cX12_strokeAt 40 = .ok (.iload_n 3, 1) := by decide +kernel
theorem dX12_strokeAt_41 : decode cX12_strokeAt 41 = .ok (.iaload, 1) := by decide +kernel
theorem dX12_strokeAt_42 : decode cX12_strokeAt 42 = .ok (.iload 4, 2) := by decide +kernel
theorem dX12_strokeAt_44 : decode cX12_strokeAt 44 = .ok (.invokestatic 95, 3) := by decide +kernel
theorem dX12_strokeAt_47 : decode cX12_strokeAt 47 = .ok (.ifCond .eq 25, 3) := by decide +kernel
theorem dX12_strokeAt_50 : decode cX12_strokeAt 50 = .ok (.iconst 1, 1) := by decide +kernel
theorem dX12_strokeAt_51 : decode cX12_strokeAt 51 = .ok (.aload_n 0, 1) := by decide +kernel
theorem dX12_strokeAt_52 : decode cX12_strokeAt 52 = .ok (.getfield 36, 3) := by decide +kernel
theorem dX12_strokeAt_55 : decode cX12_strokeAt 55 = .ok (.iload_n 3, 1) := by decide +kernel
theorem dX12_strokeAt_56 : decode cX12_strokeAt 56 = .ok (.iconst 1, 1) := by decide +kernel
theorem dX12_strokeAt_57 : decode cX12_strokeAt 57 = .ok (.iload 4, 2) := by decide +kernel
theorem dX12_strokeAt_59 : decode cX12_strokeAt 59 = .ok (.ishl, 1) := by decide +kernel
theorem dX12_strokeAt_60 : decode cX12_strokeAt 60 = .ok (.ior, 1) := by decide +kernel
theorem dX12_strokeAt_61 : decode cX12_strokeAt 61 = .ok (.iaload, 1) := by decide +kernel
theorem dX12_strokeAt_62 : decode cX12_strokeAt 62 = .ok (.iadd, 1) := by decide +kernel
theorem dX12_strokeAt_63 : decode cX12_strokeAt 63 = .ok (.aload_n 0, 1) := by decide +kernel
theorem dX12_strokeAt_64 : decode cX12_strokeAt 64 = .ok (.getfield 36, 3) := by decide +kernel
theorem dX12_strokeAt_67 : decode cX12_strokeAt 67 = .ok (.iload_n 3, 1) := by decide +kernel
theorem dX12_strokeAt_68 : decode cX12_strokeAt 68 = .ok (.iaload, 1) := by decide +kernel
theorem dX12_strokeAt_69 : decode cX12_strokeAt 69 = .ok (.if_icmp .eq 9, 3) := by decide +kernel
theorem dX12_strokeAt_72 : decode cX12_strokeAt 72 = .ok (.iinc 4 1, 3) := by decide +kernel
theorem dX12_strokeAt_75 : decode cX12_strokeAt 75 = .ok (.goto (-45), 3) := by decide +kernel
theorem dX12_strokeAt_78 : decode cX12_strokeAt 78 = .ok (.iload_n 3, 1) := by decide +kernel
theorem dX12_strokeAt_79 : decode cX12_strokeAt 79 = .ok (.iconst 1, 1) := by decide +kernel
theorem dX12_strokeAt_80 : decode cX12_strokeAt 80 = .ok (.iload 4, 2) := by decide +kernel
theorem dX12_strokeAt_82 : decode cX12_strokeAt 82 = .ok (.ishl, 1) := by decide +kernel
theorem dX12_strokeAt_83 : decode cX12_strokeAt 83 = .ok (.ior, 1) := by decide +kernel
theorem dX12_strokeAt_84 : decode cX12_strokeAt 84 = .ok (.istore_n 3, 1) := by decide +kernel
theorem dX12_strokeAt_85 : decode cX12_strokeAt 85 = .ok (.iinc 5 1, 3) := by decide +kernel
theorem dX12_strokeAt_88 : decode cX12_strokeAt 88 = .ok (.goto (-80), 3) := by decide +kernel
theorem dX12_strokeAt_91 : decode cX12_strokeAt 91 = .ok (.iload 4, 2) := by decide +kernel
theorem dX12_strokeAt_93 : decode cX12_strokeAt 93 = .ok (.ireturn, 1) := by decide +kernel
set_option maxRecDepth 20000 in
theorem ggX12_few_X12_isWrong : GoodIn wsX12_few wsX12_isWrong := goodIn_r _ [8, 9, 10, 11, 7, 12, 1, 13, 14, 15, 54, 55, 56, 57, 58, 59, 60, 61, 62, 63, 64, 65, 66, 67, 68, 69, 70, 71, 72] (by decide +kernel) (by decide +kernel)
set_option maxRecDepth 20000 in
theorem gX12_few_X12_isWrong : GoodIn wsX12_few (wsV RX12 118 RX12 yX12_isWrong wsX12_isWrong) := goodIn_app (goodIn_of _ (by decide +kernel)) ggX12_few_X12_isWrong
set_option maxRecDepth 20000 in
theorem ggX12_few_X12_bad : GoodIn wsX12_few wsX12_bad := goodIn_r _ [19, 20, 54, 55, 56, 57, 58, 59, 60, 61, 62, 63, 64, 65, 66, 67, 68, 69, 70, 71, 72] (by decide +kernel) (by decide +kernel)
set_option maxRecDepth 20000 in
theorem gX12_few_X12_bad : GoodIn wsX12_few (wsV RX12 71 RX12 yX12_bad wsX12_bad) := goodIn_app (goodIn_of _ (by decide +kernel)) ggX12_few_X12_bad
set_option maxRecDepth 20000 in
theorem ggX12_few_X12_layCan : GoodIn wsX12_few wsX12_layCan := goodIn_r _ [24, 25, 9, 10, 11, 7, 12, 1, 26, 27, 28, 29, 30, 31, 32, 33, 34, 35, 36, 37, 38, 39, 40, 41, 42, 43, 44, 45, 54, 55, 56, 57, 58, 59, 60, 61, 62, 63, 64, 65, 66, 67, 68, 69, 70, 71, 72] (by decide +kernel) (by decide +kernel)
set_option maxRecDepth 20000 in
theorem gX12_few_X12_layCan : GoodIn wsX12_few (wsV RX12 149 RX12 yX12_layCan wsX12_layCan) := goodIn_app (goodIn_of _ (by decide +kernel)) ggX12_few_X12_layCan
set_option maxRecDepth 20000 in
theorem ggX12_few_X12_layFewest : GoodIn wsX12_few wsX12_layFewest := goodIn_r _ [49, 2, 25, 3, 9, 10, 11, 7, 12, 1, 30, 31, 32, 54, 55, 56, 57, 58, 59, 60, 61, 62, 63, 64, 65, 66, 67, 68, 69, 70, 71, 72] (by decide +kernel) (by decide +kernel)
set_option maxRecDepth 20000 in
theorem gX12_few_X12_layFewest : GoodIn wsX12_few (wsV RX12 156 RX12 yX12_layFewest wsX12_layFewest) := goodIn_app (goodIn_of _ (by decide +kernel)) ggX12_few_X12_layFewest
set_option maxRecDepth 20000 in
theorem ggX12_few_X12_has : GoodIn wsX12_few wsX12_has := goodIn_r _ [32] (by decide +kernel) (by decide +kernel)
set_option maxRecDepth 20000 in
theorem gX12_few_X12_has : GoodIn wsX12_few (va_wsS RX12 95 yX12_has wsX12_has) := goodIn_app (goodIn_of _ (by decide +kernel)) ggX12_few_X12_has
set_option maxRecDepth 20000 in
theorem ggX12_few_X12_strokeAt : GoodIn wsX12_few wsX12_strokeAt := goodIn_r _ [53, 2, 25, 30, 31, 7, 32, 54, 55, 56, 57, 58, 59, 60, 61, 62, 63, 64, 65, 66, 67, 68, 69, 70, 71, 72] (by decide +kernel) (by decide +kernel)
set_option maxRecDepth 20000 in
theorem gX12_few_X12_strokeAt : GoodIn wsX12_few (wsV RX12 160 RX12 yX12_strokeAt wsX12_strokeAt) := goodIn_app (goodIn_of _ (by decide +kernel)) ggX12_few_X12_strokeAt
theorem dX12_few_0 : decode cX12_few 0 = .ok (.aload_n 0, 1) := by decide +kernel
theorem dX12_few_1 : decode cX12_few 1 = .ok (.iload_n 1, 1) := by decide +kernel
theorem dX12_few_2 : decode cX12_few 2 = .ok (.invokevirtual 118, 3) := by decide +kernel
theorem dX12_few_5 : decode cX12_few 5 = .ok (.ifCond .eq 8, 3) := by decide +kernel
theorem dX12_few_8 : decode cX12_few 8 = .ok (.iload_n 2, 1) := by decide +kernel
theorem dX12_few_9 : decode cX12_few 9 = .ok (.iconst (-1), 1) := by decide +kernel
theorem dX12_few_10 : decode cX12_few 10 = .ok (.if_icmp .ge 10, 3) := by decide +kernel
theorem dX12_few_13 : decode cX12_few 13 = .ok (.aload_n 0, 1) := by decide +kernel
theorem dX12_few_14 : decode cX12_few 14 = .ok (.bipush (-10), 2) := by decide +kernel
theorem dX12_few_16 : decode cX12_few 16 = .ok (.invokevirtual 71, 3) := by decide +kernel
theorem dX12_few_19 : decode cX12_few 19 = .ok (.ireturn, 1) := by decide +kernel
theorem dX12_few_20 : decode cX12_few 20 = .ok (.aload_n 0, 1) := by decide +kernel
theorem dX12_few_21 : decode cX12_few 21 = .ok (.invokevirtual 149, 3) := by decide +kernel
theorem dX12_few_24 : decode cX12_few 24 = .ok (.aload_n 0, 1) := by decide +kernel
theorem dX12_few_25 : decode cX12_few 25 = .ok (.iload_n 1, 1) := by decide +kernel
theorem dX12_few_26 : decode cX12_few 26 = .ok (.iconst 0, 1) := by decide +kernel
theorem dX12_few_27 : decode cX12_few 27 = .ok (.invokevirtual 156, 3) := by decide +kernel
theorem dX12_few_30 : decode cX12_few 30 = .ok (.aload_n 0, 1) := by decide +kernel
theorem dX12_few_31 : decode cX12_few 31 = .ok (.getfield 7, 3) := by decide +kernel
theorem dX12_few_34 : decode cX12_few 34 = .ok (.bipush 20, 2) := by decide +kernel
theorem dX12_few_36 : decode cX12_few 36 = .ok (.iaload, 1) := by decide +kernel
theorem dX12_few_37 : decode cX12_few 37 = .ok (.iload_n 1, 1) := by decide +kernel
theorem dX12_few_38 : decode cX12_few 38 = .ok (.invokestatic 95, 3) := by decide +kernel
theorem dX12_few_41 : decode cX12_few 41 = .ok (.ifCond .eq 7, 3) := by decide +kernel
theorem dX12_few_44 : decode cX12_few 44 = .ok (.iconst 0, 1) := by decide +kernel
theorem dX12_few_45 : decode cX12_few 45 = .ok (.goto 9, 3) := by decide +kernel
theorem dX12_few_48 : decode cX12_few 48 = .ok (.aload_n 0, 1) := by decide +kernel
theorem dX12_few_49 : decode cX12_few 49 = .ok (.getfield 36, 3) := by decide +kernel
theorem dX12_few_52 : decode cX12_few 52 = .ok (.iconst 0, 1) := by decide +kernel
theorem dX12_few_53 : decode cX12_few 53 = .ok (.iaload, 1) := by decide +kernel
theorem dX12_few_54 : decode cX12_few 54 = .ok (.istore_n 3, 1) := by decide +kernel
theorem dX12_few_55 : decode cX12_few 55 = .ok (.iload_n 3, 1) := by decide +kernel
theorem dX12_few_56 : decode cX12_few 56 = .ok (.ldc 155, 2) := by decide +kernel
theorem dX12_few_58 : decode cX12_few 58 = .ok (.if_icmp .lt 6, 3) := by decide +kernel
theorem dX12_few_61 : decode cX12_few 61 = .ok (.bipush (-6), 2) := by decide +kernel
theorem dX12_few_63 : decode cX12_few 63 = .ok (.ireturn, 1) := by decide +kernel
theorem dX12_few_64 : decode cX12_few 64 = .ok (.iload_n 2, 1) := by decide +kernel
theorem dX12_few_65 : decode cX12_few 65 = .ok (.iconst (-1), 1) := by decide +kernel
theorem dX12_few_66 : decode cX12_few 66 = .ok (.if_icmp .ne 7, 3) := by decide +kernel
theorem dX12_few_69 : decode cX12_few 69 = .ok (.iload_n 3, 1) := by decide +kernel
theorem dX12_few_70 : decode cX12_few 70 = .ok (.goto 19, 3) := by decide +kernel
theorem dX12_few_73 : decode cX12_few 73 = .ok (.iload_n 2, 1) := by decide +kernel
theorem dX12_few_74 : decode cX12_few 74 = .ok (.iload_n 3, 1) := by decide +kernel
theorem dX12_few_75 : decode cX12_few 75 = .ok (.if_icmp .lt 8, 3) := by decide +kernel
theorem dX12_few_78 : decode cX12_few 78 = .ok (.bipush (-5), 2) := by decide +kernel
theorem dX12_few_80 : decode cX12_few 80 = .ok (.goto 9, 3) := by decide +kernel
theorem dX12_few_83 : decode cX12_few 83 = .ok (.aload_n 0, 1) := by decide +kernel
theorem dX12_few_84 : decode cX12_few 84 = .ok (.iload_n 1, 1) := by decide +kernel
theorem dX12_few_85 : decode cX12_few 85 = .ok (.iload_n 2, 1) := by decide +kernel
theorem dX12_few_86 : decode cX12_few 86 = .ok (.invokevirtual 160, 3) := by decide +kernel
theorem dX12_few_89 : decode cX12_few 89 = .ok (.ireturn, 1) := by decide +kernel
set_option maxRecDepth 20000 in
theorem ggX12_hush_X12_isWrong : GoodIn wsX12_hush wsX12_isWrong := goodIn_r _ [8, 9, 10, 11, 7, 12, 1, 13, 14, 15, 53, 54, 55, 56, 57, 58, 59, 60, 61, 62, 63, 64, 65, 66, 67, 68, 69, 70, 71] (by decide +kernel) (by decide +kernel)
set_option maxRecDepth 20000 in
theorem gX12_hush_X12_isWrong : GoodIn wsX12_hush (wsV RX12 118 RX12 yX12_isWrong wsX12_isWrong) := goodIn_app (goodIn_of _ (by decide +kernel)) ggX12_hush_X12_isWrong
set_option maxRecDepth 20000 in
theorem ggX12_hush_X12_bad : GoodIn wsX12_hush wsX12_bad := goodIn_r _ [19, 20, 53, 54, 55, 56, 57, 58, 59, 60, 61, 62, 63, 64, 65, 66, 67, 68, 69, 70, 71] (by decide +kernel) (by decide +kernel)
set_option maxRecDepth 20000 in
theorem gX12_hush_X12_bad : GoodIn wsX12_hush (wsV RX12 71 RX12 yX12_bad wsX12_bad) := goodIn_app (goodIn_of _ (by decide +kernel)) ggX12_hush_X12_bad
set_option maxRecDepth 20000 in
theorem ggX12_hush_X12_layCan : GoodIn wsX12_hush wsX12_layCan := goodIn_r _ [24, 25, 9, 10, 11, 7, 12, 1, 26, 27, 28, 29, 30, 31, 32, 33, 34, 35, 36, 37, 38, 39, 40, 41, 42, 43, 44, 45, 53, 54, 55, 56, 57, 58, 59, 60, 61, 62, 63, 64, 65, 66, 67, 68, 69, 70, 71] (by decide +kernel) (by decide +kernel)
set_option maxRecDepth 20000 in
theorem gX12_hush_X12_layCan : GoodIn wsX12_hush (wsV RX12 149 RX12 yX12_layCan wsX12_layCan) := goodIn_app (goodIn_of _ (by decide +kernel)) ggX12_hush_X12_layCan
set_option maxRecDepth 20000 in
theorem ggX12_hush_X12_many : GoodIn wsX12_hush wsX12_many := goodIn_r _ [12, 1, 53, 54, 55, 56, 57, 58, 59, 60, 61, 62, 63, 64, 65, 66, 67, 68, 69, 70, 71] (by decide +kernel) (by decide +kernel)
set_option maxRecDepth 20000 in
theorem gX12_hush_X12_many : GoodIn wsX12_hush (wsV RX12 59 RX12 yX12_many wsX12_many) := goodIn_app (goodIn_of _ (by decide +kernel)) ggX12_hush_X12_many
set_option maxRecDepth 20000 in
theorem ggX12_hush_X12_bits : GoodIn wsX12_hush wsX12_bits := goodIn_r _ [48] (by decide +kernel) (by decide +kernel)
set_option maxRecDepth 20000 in
theorem gX12_hush_X12_bits : GoodIn wsX12_hush (va_wsS RX12 163 yX12_bits wsX12_bits) := goodIn_app (goodIn_of _ (by decide +kernel)) ggX12_hush_X12_bits
set_option maxRecDepth 20000 in
theorem ggX12_hush_X12_has : GoodIn wsX12_hush wsX12_has := goodIn_r _ [32] (by decide +kernel) (by decide +kernel)
set_option maxRecDepth 20000 in
theorem gX12_hush_X12_has : GoodIn wsX12_hush (va_wsS RX12 95 yX12_has wsX12_has) := goodIn_app (goodIn_of _ (by decide +kernel)) ggX12_hush_X12_has
set_option maxRecDepth 20000 in
theorem ggX12_hush_X12_layFewest : GoodIn wsX12_hush wsX12_layFewest := goodIn_r _ [52, 2, 25, 3, 9, 10, 11, 7, 12, 1, 30, 31, 32, 53, 54, 55, 56, 57, 58, 59, 60, 61, 62, 63, 64, 65, 66, 67, 68, 69, 70, 71] (by decide +kernel) (by decide +kernel)
set_option maxRecDepth 20000 in
theorem gX12_hush_X12_layFewest : GoodIn wsX12_hush (wsV RX12 156 RX12 yX12_layFewest wsX12_layFewest) := goodIn_app (goodIn_of _ (by decide +kernel)) ggX12_hush_X12_layFewest
theorem dX12_hush_0 : decode cX12_hush 0 = .ok (.aload_n 0, 1) := by decide +kernel
theorem dX12_hush_1 : decode cX12_hush 1 = .ok (.iload_n 1, 1) := by decide +kernel
theorem dX12_hush_2 : decode cX12_hush 2 = .ok (.invokevirtual 118, 3) := by decide +kernel
theorem dX12_hush_5 : decode cX12_hush 5 = .ok (.ifCond .ne 10, 3) := by decide +kernel
theorem dX12_hush_8 : decode cX12_hush 8 = .ok (.aload_n 0, 1) := by decide +kernel
theorem dX12_hush_9 : decode cX12_hush 9 = .ok (.bipush (-2), 2) := by decide +kernel
theorem dX12_hush_11 : decode cX12_hush 11 = .ok (.invokevirtual 71, 3) := by decide +kernel
theorem dX12_hush_14 : decode cX12_hush 14 = .ok (.ireturn, 1) := by decide +kernel
theorem dX12_hush_15 : decode cX12_hush 15 = .ok (.iconst (-1), 1) := by decide +kernel
theorem dX12_hush_16 : decode cX12_hush 16 = .ok (.istore_n 2, 1) := by decide +kernel
theorem dX12_hush_17 : decode cX12_hush 17 = .ok (.aload_n 0, 1) := by decide +kernel
theorem dX12_hush_18 : decode cX12_hush 18 = .ok (.invokevirtual 149, 3) := by decide +kernel
theorem dX12_hush_21 : decode cX12_hush 21 = .ok (.iconst 0, 1) := by decide +kernel
theorem dX12_hush_22 : decode cX12_hush 22 = .ok (.istore_n 3, 1) := by decide +kernel
theorem dX12_hush_23 : decode cX12_hush 23 = .ok (.iload_n 3, 1) := by decide +kernel
theorem dX12_hush_24 : decode cX12_hush 24 = .ok (.iconst 1, 1) := by decide +kernel
theorem dX12_hush_25 : decode cX12_hush 25 = .ok (.aload_n 0, 1) := by decide +kernel
theorem dX12_hush_26 : decode cX12_hush 26 = .ok (.invokevirtual 59, 3) := by decide +kernel
theorem dX12_hush_29 : decode cX12_hush 29 = .ok (.ishl, 1) := by decide +kernel
theorem dX12_hush_30 : decode cX12_hush 30 = .ok (.if_icmp .ge 80, 3) := by decide +kernel
theorem dX12_hush_33 : decode cX12_hush 33 = .ok (.iload_n 2, 1) := by decide +kernel
theorem dX12_hush_34 : decode cX12_hush 34 = .ok (.iconst (-1), 1) := by decide +kernel
theorem dX12_hush_35 : decode cX12_hush 35 = .ok (.if_icmp .eq 14, 3) := by decide +kernel
theorem dX12_hush_38 : decode cX12_hush 38 = .ok (.iload_n 3, 1) := by decide +kernel
theorem dX12_hush_39 : decode cX12_hush 39 = .ok (.invokestatic 163, 3) := by decide +kernel
theorem dX12_hush_42 : decode cX12_hush 42 = .ok (.iload_n 2, 1) := by decide +kernel
theorem dX12_hush_43 : decode cX12_hush 43 = .ok (.invokestatic 163, 3) := by decide +kernel
theorem dX12_hush_46 : decode cX12_hush 46 = .ok (.if_icmp .ge 7, 3) := by decide +kernel
theorem dX12_hush_49 : decode cX12_hush 49 = .ok (.iconst 1, 1) := by decide +kernel
theorem dX12_hush_50 : decode cX12_hush 50 = .ok (.goto 4, 3) := by decide +kernel
theorem dX12_hush_53 : decode cX12_hush 53 = .ok (.iconst 0, 1) := by decide +kernel
theorem dX12_hush_54 : decode cX12_hush 54 = .ok (.istore 4, 2) := by decide +kernel
theorem dX12_hush_56 : decode cX12_hush 56 = .ok (.iload 4, 2) := by decide +kernel
theorem dX12_hush_58 : decode cX12_hush 58 = .ok (.ifCond .eq 46, 3) := by decide +kernel
theorem dX12_hush_61 : decode cX12_hush 61 = .ok (.iload_n 3, 1) := by decide +kernel
theorem dX12_hush_62 : decode cX12_hush 62 = .ok (.iload_n 1, 1) := by decide +kernel
theorem dX12_hush_63 : decode cX12_hush 63 = .ok (.invokestatic 95, 3) := by decide +kernel
theorem dX12_hush_66 : decode cX12_hush 66 = .ok (.ifCond .ne 38, 3) := by decide +kernel
theorem dX12_hush_69 : decode cX12_hush 69 = .ok (.iload_n 3, 1) := by decide +kernel
theorem dX12_hush_70 : decode cX12_hush 70 = .ok (.aload_n 0, 1) := by decide +kernel
theorem dX12_hush_71 : decode cX12_hush 71 = .ok (.getfield 7, 3) := by decide +kernel
theorem dX12_hush_74 : decode cX12_hush 74 = .ok (.bipush 20, 2) := by decide +kernel
theorem dX12_hush_76 : decode cX12_hush 76 = .ok (.iaload, 1) := by decide +kernel
theorem dX12_hush_77 : decode cX12_hush 77 = .ok (.iand, 1) := by decide +kernel
theorem dX12_hush_78 : decode cX12_hush 78 = .ok (.ifCond .ne 26, 3) := by decide +kernel
theorem dX12_hush_81 : decode cX12_hush 81 = .ok (.aload_n 0, 1) := by decide +kernel
theorem dX12_hush_82 : decode cX12_hush 82 = .ok (.iload_n 1, 1) := by decide +kernel
theorem dX12_hush_83 : decode cX12_hush 83 = .ok (.iload_n 3, 1) := by decide +kernel
theorem dX12_hush_84 : decode cX12_hush 84 = .ok (.invokevirtual 156, 3) := by decide +kernel
theorem dX12_hush_87 : decode cX12_hush 87 = .ok (.aload_n 0, 1) := by decide +kernel
theorem dX12_hush_88 : decode cX12_hush 88 = .ok (.getfield 36, 3) := by decide +kernel
theorem dX12_hush_91 : decode cX12_hush 91 = .ok (.iconst 0, 1) := by decide +kernel
theorem dX12_hush_92 : decode cX12_hush 92 = .ok (.iaload, 1) := by decide +kernel
theorem dX12_hush_93 : decode cX12_hush 93 = .ok (.ldc 155, 2) := by decide +kernel
theorem dX12_hush_95 : decode cX12_hush 95 = .ok (.if_icmp .lt 7, 3) := by decide +kernel
theorem dX12_hush_98 : decode cX12_hush 98 = .ok (.iload_n 3, 1) := by decide +kernel
theorem dX12_hush_99 : decode cX12_hush 99 = .ok (.goto 4, 3) := by decide +kernel
theorem dX12_hush_102 : decode cX12_hush 102 = .ok (.iload_n 2, 1) := by decide +kernel
theorem dX12_hush_103 : decode cX12_hush 103 = .ok (.istore_n 2, 1) := by decide +kernel
theorem dX12_hush_104 : decode cX12_hush 104 = .ok (.iinc 3 1, 3) := by decide +kernel
theorem dX12_hush_107 : decode cX12_hush 107 = .ok (.goto (-84), 3) := by decide +kernel
theorem dX12_hush_110 : decode cX12_hush 110 = .ok (.iload_n 2, 1) := by decide +kernel
theorem dX12_hush_111 : decode cX12_hush 111 = .ok (.ireturn, 1) := by decide +kernel
set_option maxRecDepth 20000 in
theorem ggX12_round_X12_isOne : GoodIn wsX12_round wsX12_isOne := goodIn_r _ [6, 1, 7, 8, 5, 9, 22, 23, 24, 25, 26, 27, 28, 29, 30, 31, 32, 33, 34, 35, 36, 37, 38, 39, 40] (by decide +kernel) (by decide +kernel)
set_option maxRecDepth 20000 in
theorem gX12_round_X12_isOne : GoodIn wsX12_round (wsV RX12 78 RX12 yX12_isOne wsX12_isOne) := goodIn_app (goodIn_of _ (by decide +kernel)) ggX12_round_X12_isOne
set_option maxRecDepth 20000 in
theorem ggX12_round_X12_bad : GoodIn wsX12_round wsX12_bad := goodIn_r _ [13, 14, 22, 23, 24, 25, 26, 27, 28, 29, 30, 31, 32, 33, 34, 35, 36, 37, 38, 39, 40] (by decide +kernel) (by decide +kernel)
set_option maxRecDepth 20000 in
theorem gX12_round_X12_bad : GoodIn wsX12_round (wsV RX12 71 RX12 yX12_bad wsX12_bad) := goodIn_app (goodIn_of _ (by decide +kernel)) ggX12_round_X12_bad
set_option maxRecDepth 20000 in
theorem ggX12_round_X12_many : GoodIn wsX12_round wsX12_many := goodIn_r _ [18, 1, 22, 23, 24, 25, 26, 27, 28, 29, 30, 31, 32, 33, 34, 35, 36, 37, 38, 39, 40] (by decide +kernel) (by decide +kernel)
set_option maxRecDepth 20000 in
theorem gX12_round_X12_many : GoodIn wsX12_round (wsV RX12 59 RX12 yX12_many wsX12_many) := goodIn_app (goodIn_of _ (by decide +kernel)) ggX12_round_X12_many
set_option maxRecDepth 20000 in
theorem ggX12_round_X12_has : GoodIn wsX12_round wsX12_has := goodIn_r _ [21] (by decide +kernel) (by decide +kernel)
set_option maxRecDepth 20000 in
theorem gX12_round_X12_has : GoodIn wsX12_round (va_wsS RX12 95 yX12_has wsX12_has) := goodIn_app (goodIn_of _ (by decide +kernel)) ggX12_round_X12_has
theorem dX12_round_0 : decode cX12_round 0 = .ok (.aload_n 0, 1) := by decide +kernel
theorem dX12_round_1 : decode cX12_round 1 = .ok (.iload_n 1, 1) := by decide +kernel
theorem dX12_round_2 : decode cX12_round 2 = .ok (.invokevirtual 78, 3) := by decide +kernel
theorem dX12_round_5 : decode cX12_round 5 = .ok (.ifCond .ne 10, 3) := by decide +kernel
theorem dX12_round_8 : decode cX12_round 8 = .ok (.aload_n 0, 1) := by decide +kernel
theorem dX12_round_9 : decode cX12_round 9 = .ok (.bipush (-2), 2) := by decide +kernel
theorem dX12_round_11 : decode cX12_round 11 = .ok (.invokevirtual 71, 3) := by decide +kernel
theorem dX12_round_14 : decode cX12_round 14 = .ok (.ireturn, 1) := by decide +kernel
theorem dX12_round_15 : decode cX12_round 15 = .ok (.iconst 1, 1) := by decide +kernel
theorem dX12_round_16 : decode cX12_round 16 = .ok (.iload_n 1, 1) := by decide +kernel
theorem dX12_round_17 : decode cX12_round 17 = .ok (.ishl, 1) := by decide +kernel
theorem dX12_round_18 : decode cX12_round 18 = .ok (.istore_n 2, 1) := by decide +kernel
theorem dX12_round_19 : decode cX12_round 19 = .ok (.iconst 1, 1) := by decide +kernel
theorem dX12_round_20 : decode cX12_round 20 = .ok (.istore_n 3, 1) := by decide +kernel
theorem dX12_round_21 : decode cX12_round 21 = .ok (.iload_n 3, 1) := by decide +kernel
theorem dX12_round_22 : decode cX12_round 22 = .ok (.bipush 6, 2) := by decide +kernel
theorem dX12_round_24 : decode cX12_round 24 = .ok (.if_icmp .gt 97, 3) := by decide +kernel
theorem dX12_round_27 : decode cX12_round 27 = .ok (.iconst 0, 1) := by decide +kernel
theorem dX12_round_28 : decode cX12_round 28 = .ok (.istore 4, 2) := by decide +kernel
theorem dX12_round_30 : decode cX12_round 30 = .ok (.iconst 0, 1) := by decide +kernel
theorem dX12_round_31 : decode cX12_round 31 = .ok (.istore 5, 2) := by decide +kernel
theorem dX12_round_33 : decode cX12_round 33 = .ok (.iload 5, 2) := by decide +kernel
theorem dX12_round_35 : decode cX12_round 35 = .ok (.aload_n 0, 1) := by decide +kernel
theorem dX12_round_36 : decode cX12_round 36 = .ok (.invokevirtual 59, 3) := by decide +kernel
theorem dX12_round_39 : decode cX12_round 39 = .ok (.if_icmp .ge 62, 3) := by decide +kernel
theorem dX12_round_42 : decode cX12_round 42 = .ok (.iload 4, 2) := by decide +kernel
theorem dX12_round_44 : decode cX12_round 44 = .ok (.aload_n 0, 1) := by decide +kernel
theorem dX12_round_45 : decode cX12_round 45 = .ok (.getfield 7, 3) := by decide +kernel
theorem dX12_round_48 : decode cX12_round 48 = .ok (.bipush 20, 2) := by decide +kernel
theorem dX12_round_50 : decode cX12_round 50 = .ok (.iaload, 1) := by decide +kernel
theorem dX12_round_51 : decode cX12_round 51 = .ok (.iload 5, 2) := by decide +kernel
theorem dX12_round_53 : decode cX12_round 53 = .ok (.invokestatic 95, 3) := by decide +kernel
theorem dX12_round_56 : decode cX12_round 56 = .ok (.ifCond .ne 35, 3) := by decide +kernel
theorem dX12_round_59 : decode cX12_round 59 = .ok (.iload_n 2, 1) := by decide +kernel
theorem dX12_round_60 : decode cX12_round 60 = .ok (.aload_n 0, 1) := by decide +kernel
theorem dX12_round_61 : decode cX12_round 61 = .ok (.getfield 7, 3) := by decide +kernel
theorem dX12_round_64 : decode cX12_round 64 = .ok (.bipush 36, 2) := by decide +kernel
theorem dX12_round_66 : decode cX12_round 66 = .ok (.iload 5, 2) := by decide +kernel
theorem dX12_round_68 : decode cX12_round 68 = .ok (.iadd, 1) := by decide +kernel
theorem dX12_round_69 : decode cX12_round 69 = .ok (.iaload, 1) := by decide +kernel
theorem dX12_round_70 : decode cX12_round 70 = .ok (.invokestatic 95, 3) := by decide +kernel
theorem dX12_round_73 : decode cX12_round 73 = .ok (.ifCond .eq 18, 3) := by decide +kernel
theorem dX12_round_76 : decode cX12_round 76 = .ok (.iconst 1, 1) := by decide +kernel
theorem dX12_round_77 : decode cX12_round 77 = .ok (.aload_n 0, 1) := by decide +kernel
theorem dX12_round_78 : decode cX12_round 78 = .ok (.getfield 7, 3) := by decide +kernel
theorem dX12_round_81 : decode cX12_round 81 = .ok (.bipush 44, 2) := by decide +kernel
theorem dX12_round_83 : decode cX12_round 83 = .ok (.iload 5, 2) := by decide +kernel
theorem dX12_round_85 : decode cX12_round 85 = .ok (.iadd, 1) := by decide +kernel
theorem dX12_round_86 : decode cX12_round 86 = .ok (.iaload, 1) := by decide +kernel
theorem dX12_round_87 : decode cX12_round 87 = .ok (.ishl, 1) := by decide +kernel
theorem dX12_round_88 : decode cX12_round 88 = .ok (.goto 4, 3) := by decide +kernel
theorem dX12_round_91 : decode cX12_round 91 = .ok (.iconst 0, 1) := by decide +kernel
theorem dX12_round_92 : decode cX12_round 92 = .ok (.ior, 1) := by decide +kernel
theorem dX12_round_93 : decode cX12_round 93 = .ok (.istore 4, 2) := by decide +kernel
theorem dX12_round_95 : decode cX12_round 95 = .ok (.iinc 5 1, 3) := by decide +kernel
theorem dX12_round_98 : decode cX12_round 98 = .ok (.goto (-65), 3) := by decide +kernel
theorem dX12_round_101 : decode cX12_round 101 = .ok (.iload 4, 2) := by decide +kernel
theorem dX12_round_103 : decode cX12_round 103 = .ok (.iload_n 1, 1) := by decide +kernel
theorem dX12_round_104 : decode cX12_round 104 = .ok (.invokestatic 95, 3) := by decide +kernel
theorem dX12_round_107 : decode cX12_round 107 = .ok (.ifCond .eq 5, 3) := by decide +kernel
theorem dX12_round_110 : decode cX12_round 110 = .ok (.iload_n 3, 1) := by decide +kernel
theorem dX12_round_111 : decode cX12_round 111 = .ok (.ireturn, 1) := by decide +kernel
theorem dX12_round_112 : decode cX12_round 112 = .ok (.iload 4, 2) := by decide +kernel
theorem dX12_round_114 : decode cX12_round 114 = .ok (.istore_n 2, 1) := by decide +kernel
theorem dX12_round_115 : decode cX12_round 115 = .ok (.iinc 3 1, 3) := by decide +kernel
theorem dX12_round_118 : decode cX12_round 118 = .ok (.goto (-97), 3) := by decide +kernel
theorem dX12_round_121 : decode cX12_round 121 = .ok (.iconst (-1), 1) := by decide +kernel
theorem dX12_round_122 : decode cX12_round 122 = .ok (.ireturn, 1) := by decide +kernel
theorem dX12_layFour_0 : decode cX12_layFour 0 = .ok (.aload_n 0, 1) := by decide +kernel
theorem dX12_layFour_1 : decode cX12_layFour 1 = .ok (.getfield 7, 3) := by decide +kernel
theorem dX12_layFour_4 : decode cX12_layFour 4 = .ok (.iload_n 1, 1) := by decide +kernel
theorem dX12_layFour_5 : decode cX12_layFour 5 = .ok (.iload_n 2, 1) := by decide +kernel
theorem dX12_layFour_6 : decode cX12_layFour 6 = .ok (.iastore, 1) := by decide +kernel
theorem dX12_layFour_7 : decode cX12_layFour 7 = .ok (.aload_n 0, 1) := by decide +kernel
theorem dX12_layFour_8 : decode cX12_layFour 8 = .ok (.getfield 7, 3) := by decide +kernel
theorem dX12_layFour_11 : decode cX12_layFour 11 = .ok (.iload_n 1, 1) := by decide +kernel
theorem dX12_layFour_12 : decode cX12_layFour 12 = .ok (.iconst 1, 1) := by decide +kernel
theorem dX12_layFour_13 : decode cX12_layFour 13 = .ok (.iadd, 1) := by decide +kernel
theorem dX12_layFour_14 : decode cX12_layFour 14 = .ok (.iload_n 3, 1) := by decide +kernel
theorem dX12_layFour_15 : decode cX12_layFour 15 = .ok (.iastore, 1) := by decide +kernel
theorem dX12_layFour_16 : decode cX12_layFour 16 = .ok (.aload_n 0, 1) := by decide +kernel
theorem dX12_layFour_17 : decode cX12_layFour 17 = .ok (.getfield 7, 3) := by decide +kernel
theorem dX12_layFour_20 : decode cX12_layFour 20 = .ok (.iload_n 1, 1) := by decide +kernel
theorem dX12_layFour_21 : decode cX12_layFour 21 = .ok (.iconst 2, 1) := by decide +kernel
theorem dX12_layFour_22 : decode cX12_layFour 22 = .ok (.iadd, 1) := by decide +kernel
theorem dX12_layFour_23 : decode cX12_layFour 23 = .ok (.iload 4, 2) := by decide +kernel
theorem dX12_layFour_25 : decode cX12_layFour 25 = .ok (.iastore, 1) := by decide +kernel
theorem dX12_layFour_26 : decode cX12_layFour 26 = .ok (.aload_n 0, 1) := by decide +kernel
theorem dX12_layFour_27 : decode cX12_layFour 27 = .ok (.getfield 7, 3) := by decide +kernel
theorem dX12_layFour_30 : decode cX12_layFour 30 = .ok (.iload_n 1, 1) := by decide +kernel
theorem dX12_layFour_31 : decode cX12_layFour 31 = .ok (.iconst 3, 1) := by decide +kernel
theorem dX12_layFour_32 : decode cX12_layFour 32 = .ok (.iadd, 1) := by decide +kernel
theorem dX12_layFour_33 : decode cX12_layFour 33 = .ok (.iload 5, 2) := by decide +kernel
theorem dX12_layFour_35 : decode cX12_layFour 35 = .ok (.iastore, 1) := by decide +kernel
theorem dX12_layFour_36 : decode cX12_layFour 36 = .ok (.return_, 1) := by decide +kernel
set_option maxRecDepth 20000 in
theorem ggX12_seen_X12_isWrong : GoodIn wsX12_seen wsX12_isWrong := goodIn_r _ [8, 9, 10, 11, 7, 12, 3, 13, 14, 15, 29, 30, 31, 32, 33, 34, 35, 36, 37, 38, 39, 40, 41, 42, 43, 44, 45, 46, 47] (by decide +kernel) (by decide +kernel)
set_option maxRecDepth 20000 in
theorem gX12_seen_X12_isWrong : GoodIn wsX12_seen (wsV RX12 118 RX12 yX12_isWrong wsX12_isWrong) := goodIn_app (goodIn_of _ (by decide +kernel)) ggX12_seen_X12_isWrong
set_option maxRecDepth 20000 in
theorem ggX12_seen_X12_in : GoodIn wsX12_seen wsX12_in := goodIn_r _ [15] (by decide +kernel) (by decide +kernel)
set_option maxRecDepth 20000 in
theorem gX12_seen_X12_in : GoodIn wsX12_seen (va_wsS RX12 55 yX12_in wsX12_in) := goodIn_app (goodIn_of _ (by decide +kernel)) ggX12_seen_X12_in
set_option maxRecDepth 20000 in
theorem ggX12_seen_X12_bad : GoodIn wsX12_seen wsX12_bad := goodIn_r _ [19, 20, 29, 30, 31, 32, 33, 34, 35, 36, 37, 38, 39, 40, 41, 42, 43, 44, 45, 46, 47] (by decide +kernel) (by decide +kernel)
set_option maxRecDepth 20000 in
theorem gX12_seen_X12_bad : GoodIn wsX12_seen (wsV RX12 71 RX12 yX12_bad wsX12_bad) := goodIn_app (goodIn_of _ (by decide +kernel)) ggX12_seen_X12_bad
set_option maxRecDepth 20000 in
theorem ggX12_seen_X12_full : GoodIn wsX12_seen wsX12_full := goodIn_r _ [24, 20, 29, 30, 31, 32, 33, 34, 35, 36, 37, 38, 39, 40, 41, 42, 43, 44, 45, 46, 47] (by decide +kernel) (by decide +kernel)
set_option maxRecDepth 20000 in
theorem gX12_seen_X12_full : GoodIn wsX12_seen (wsV RX12 75 RX12 yX12_full wsX12_full) := goodIn_app (goodIn_of _ (by decide +kernel)) ggX12_seen_X12_full
set_option maxRecDepth 20000 in
theorem ggX12_seen_X12_layFour : GoodIn wsX12_seen wsX12_layFour := goodIn_r _ [28, 3, 29, 30, 31, 32, 33, 34, 35, 36, 37, 38, 39, 40, 41, 42, 43, 44, 45, 46, 47] (by decide +kernel) (by decide +kernel)
set_option maxRecDepth 20000 in
theorem gX12_seen_X12_layFour : GoodIn wsX12_seen (wsV RX12 170 RX12 yX12_layFour wsX12_layFour) := goodIn_app (goodIn_of _ (by decide +kernel)) ggX12_seen_X12_layFour
theorem dX12_seen_0 : decode cX12_seen 0 = .ok (.aload_n 0, 1) := by decide +kernel
theorem dX12_seen_1 : decode cX12_seen 1 = .ok (.iload_n 1, 1) := by decide +kernel
theorem dX12_seen_2 : decode cX12_seen 2 = .ok (.invokevirtual 118, 3) := by decide +kernel
theorem dX12_seen_5 : decode cX12_seen 5 = .ok (.ifCond .eq 38, 3) := by decide +kernel
theorem dX12_seen_8 : decode cX12_seen 8 = .ok (.iload_n 2, 1) := by decide +kernel
theorem dX12_seen_9 : decode cX12_seen 9 = .ok (.i2l, 1) := by decide +kernel
theorem dX12_seen_10 : decode cX12_seen 10 = .ok (.lconst 0, 1) := by decide +kernel
theorem dX12_seen_11 : decode cX12_seen 11 = .ok (.ldc2_w 166, 3) := by decide +kernel
theorem dX12_seen_14 : decode cX12_seen 14 = .ok (.invokestatic 55, 3) := by decide +kernel
theorem dX12_seen_17 : decode cX12_seen 17 = .ok (.ifCond .eq 26, 3) := by decide +kernel
theorem dX12_seen_20 : decode cX12_seen 20 = .ok (.iload_n 3, 1) := by decide +kernel
theorem dX12_seen_21 : decode cX12_seen 21 = .ok (.i2l, 1) := by decide +kernel
theorem dX12_seen_22 : decode cX12_seen 22 = .ok (.lconst 0, 1) := by decide +kernel
theorem dX12_seen_23 : decode cX12_seen 23 = .ok (.ldc2_w 168, 3) := by decide +kernel
theorem dX12_seen_26 : decode cX12_seen 26 = .ok (.invokestatic 55, 3) := by decide +kernel
theorem dX12_seen_29 : decode cX12_seen 29 = .ok (.ifCond .eq 14, 3) := by decide +kernel
theorem dX12_seen_32 : decode cX12_seen 32 = .ok (.iload 4, 2) := by decide +kernel
theorem dX12_seen_34 : decode cX12_seen 34 = .ok (.i2l, 1) := by decide +kernel
theorem dX12_seen_35 : decode cX12_seen 35 = .ok (.lconst 0, 1) := by decide +kernel
theorem dX12_seen_36 : decode cX12_seen 36 = .ok (.lconst 1, 1) := by decide +kernel
theorem dX12_seen_37 : decode cX12_seen 37 = .ok (.invokestatic 55, 3) := by decide +kernel
theorem dX12_seen_40 : decode cX12_seen 40 = .ok (.ifCond .ne 10, 3) := by decide +kernel
theorem dX12_seen_43 : decode cX12_seen 43 = .ok (.aload_n 0, 1) := by decide +kernel
theorem dX12_seen_44 : decode cX12_seen 44 = .ok (.bipush (-2), 2) := by decide +kernel
theorem dX12_seen_46 : decode cX12_seen 46 = .ok (.invokevirtual 71, 3) := by decide +kernel
theorem dX12_seen_49 : decode cX12_seen 49 = .ok (.ireturn, 1) := by decide +kernel
theorem dX12_seen_50 : decode cX12_seen 50 = .ok (.aload_n 0, 1) := by decide +kernel
theorem dX12_seen_51 : decode cX12_seen 51 = .ok (.getfield 7, 3) := by decide +kernel
theorem dX12_seen_54 : decode cX12_seen 54 = .ok (.iconst 2, 1) := by decide +kernel
theorem dX12_seen_55 : decode cX12_seen 55 = .ok (.iaload, 1) := by decide +kernel
theorem dX12_seen_56 : decode cX12_seen 56 = .ok (.iconst 5, 1) := by decide +kernel
theorem dX12_seen_57 : decode cX12_seen 57 = .ok (.if_icmp .ne 8, 3) := by decide +kernel
theorem dX12_seen_60 : decode cX12_seen 60 = .ok (.aload_n 0, 1) := by decide +kernel
theorem dX12_seen_61 : decode cX12_seen 61 = .ok (.invokevirtual 75, 3) := by decide +kernel
theorem dX12_seen_64 : decode cX12_seen 64 = .ok (.ireturn, 1) := by decide +kernel
theorem dX12_seen_65 : decode cX12_seen 65 = .ok (.aload_n 0, 1) := by decide +kernel
theorem dX12_seen_66 : decode cX12_seen 66 = .ok (.bipush 60, 2) := by decide +kernel
theorem dX12_seen_68 : decode cX12_seen 68 = .ok (.iconst 4, 1) := by decide +kernel
theorem dX12_seen_69 : decode cX12_seen 69 = .ok (.aload_n 0, 1) := by decide +kernel
theorem dX12_seen_70 : decode cX12_seen 70 = .ok (.getfield 7, 3) := by decide +kernel
theorem dX12_seen_73 : decode cX12_seen 73 = .ok (.iconst 2, 1) := by decide +kernel
theorem dX12_seen_74 : decode cX12_seen 74 = .ok (.iaload, 1) := by decide +kernel
theorem dX12_seen_75 : decode cX12_seen 75 = .ok (.imul, 1) := by decide +kernel
theorem dX12_seen_76 : decode cX12_seen 76 = .ok (.iadd, 1) := by decide +kernel
theorem dX12_seen_77 : decode cX12_seen 77 = .ok (.iload_n 1, 1) := by decide +kernel
theorem dX12_seen_78 : decode cX12_seen 78 = .ok (.iload_n 2, 1) := by decide +kernel
theorem dX12_seen_79 : decode cX12_seen 79 = .ok (.iload_n 3, 1) := by decide +kernel
theorem dX12_seen_80 : decode cX12_seen 80 = .ok (.iload 4, 2) := by decide +kernel
theorem dX12_seen_82 : decode cX12_seen 82 = .ok (.invokevirtual 170, 3) := by decide +kernel
theorem dX12_seen_85 : decode cX12_seen 85 = .ok (.aload_n 0, 1) := by decide +kernel
theorem dX12_seen_86 : decode cX12_seen 86 = .ok (.getfield 7, 3) := by decide +kernel
theorem dX12_seen_89 : decode cX12_seen 89 = .ok (.iconst 2, 1) := by decide +kernel
theorem dX12_seen_90 : decode cX12_seen 90 = .ok (.dup2, 1) := by decide +kernel
theorem dX12_seen_91 : decode cX12_seen 91 = .ok (.iaload, 1) := by decide +kernel
theorem dX12_seen_92 : decode cX12_seen 92 = .ok (.iconst 1, 1) := by decide +kernel
theorem dX12_seen_93 : decode cX12_seen 93 = .ok (.iadd, 1) := by decide +kernel
theorem dX12_seen_94 : decode cX12_seen 94 = .ok (.iastore, 1) := by decide +kernel
theorem dX12_seen_95 : decode cX12_seen 95 = .ok (.aload_n 0, 1) := by decide +kernel
theorem dX12_seen_96 : decode cX12_seen 96 = .ok (.getfield 7, 3) := by decide +kernel
theorem dX12_seen_99 : decode cX12_seen 99 = .ok (.iconst 2, 1) := by decide +kernel
theorem dX12_seen_100 : decode cX12_seen 100 = .ok (.iaload, 1) := by decide +kernel
theorem dX12_seen_101 : decode cX12_seen 101 = .ok (.ireturn, 1) := by decide +kernel
set_option maxRecDepth 20000 in
theorem ggX12_isGraveBy_X12_weighsAs : GoodIn wsX12_isGraveBy wsX12_weighsAs := goodIn_r _ [5] (by decide +kernel) (by decide +kernel)
set_option maxRecDepth 20000 in
theorem gX12_isGraveBy_X12_weighsAs : GoodIn wsX12_isGraveBy (va_wsS RX12 88 yX12_weighsAs wsX12_weighsAs) := goodIn_app (goodIn_of _ (by decide +kernel)) ggX12_isGraveBy_X12_weighsAs
theorem dX12_isGraveBy_0 : decode cX12_isGraveBy 0 = .ok (.iconst 1, 1) := by decide +kernel
theorem dX12_isGraveBy_1 : decode cX12_isGraveBy 1 = .ok (.istore_n 3, 1) := by decide +kernel
theorem dX12_isGraveBy_2 : decode cX12_isGraveBy 2 = .ok (.iconst 0, 1) := by decide +kernel
theorem dX12_isGraveBy_3 : decode cX12_isGraveBy 3 = .ok (.istore 4, 2) := by decide +kernel
theorem dX12_isGraveBy_5 : decode cX12_isGraveBy 5 = .ok (.iload 4, 2) := by decide +kernel
theorem dX12_isGraveBy_7 : decode cX12_isGraveBy 7 = .ok (.aload_n 0, 1) := by decide +kernel
theorem dX12_isGraveBy_8 : decode cX12_isGraveBy 8 = .ok (.getfield 7, 3) := by decide +kernel
theorem dX12_isGraveBy_11 : decode cX12_isGraveBy 11 = .ok (.iconst 2, 1) := by decide +kernel
theorem dX12_isGraveBy_12 : decode cX12_isGraveBy 12 = .ok (.iaload, 1) := by decide +kernel
theorem dX12_isGraveBy_13 : decode cX12_isGraveBy 13 = .ok (.if_icmp .ge 103, 3) := by decide +kernel
theorem dX12_isGraveBy_16 : decode cX12_isGraveBy 16 = .ok (.bipush 60, 2) := by decide +kernel
theorem dX12_isGraveBy_18 : decode cX12_isGraveBy 18 = .ok (.iconst 4, 1) := by decide +kernel
theorem dX12_isGraveBy_19 : decode cX12_isGraveBy 19 = .ok (.iload 4, 2) := by decide +kernel
theorem dX12_isGraveBy_21 : decode cX12_isGraveBy 21 = .ok (.imul, 1) := by decide +kernel
theorem dX12_isGraveBy_22 : decode cX12_isGraveBy 22 = .ok (.iadd, 1) := by decide +kernel
theorem dX12_isGraveBy_23 : decode cX12_isGraveBy 23 = .ok (.istore 5, 2) := by decide +kernel
theorem dX12_isGraveBy_25 : decode cX12_isGraveBy 25 = .ok (.aload_n 0, 1) := by decide +kernel
theorem dX12_isGraveBy_26 : decode cX12_isGraveBy 26 = .ok (.getfield 7, 3) := by decide +kernel
theorem dX12_isGraveBy_29 : decode cX12_isGraveBy 29 = .ok (.bipush 28, 2) := by decide +kernel
theorem dX12_isGraveBy_31 : decode cX12_isGraveBy 31 = .ok (.iload_n 1, 1) := by decide +kernel
theorem dX12_isGraveBy_32 : decode cX12_isGraveBy 32 = .ok (.iadd, 1) := by decide +kernel
theorem dX12_isGraveBy_33 : decode cX12_isGraveBy 33 = .ok (.iaload, 1) := by decide +kernel
theorem dX12_isGraveBy_34 : decode cX12_isGraveBy 34 = .ok (.iload_n 2, 1) := by decide +kernel
theorem dX12_isGraveBy_35 : decode cX12_isGraveBy 35 = .ok (.aload_n 0, 1) := by decide +kernel
theorem dX12_isGraveBy_36 : decode cX12_isGraveBy 36 = .ok (.getfield 7, 3) := by decide +kernel
theorem dX12_isGraveBy_39 : decode cX12_isGraveBy 39 = .ok (.iload 5, 2) := by decide +kernel
theorem dX12_isGraveBy_41 : decode cX12_isGraveBy 41 = .ok (.iconst 1, 1) := by decide +kernel
theorem dX12_isGraveBy_42 : decode cX12_isGraveBy 42 = .ok (.iadd, 1) := by decide +kernel
theorem dX12_isGraveBy_43 : decode cX12_isGraveBy 43 = .ok (.iaload, 1) := by decide +kernel
theorem dX12_isGraveBy_44 : decode cX12_isGraveBy 44 = .ok (.invokestatic 88, 3) := by decide +kernel
theorem dX12_isGraveBy_47 : decode cX12_isGraveBy 47 = .ok (.aload_n 0, 1) := by decide +kernel
theorem dX12_isGraveBy_48 : decode cX12_isGraveBy 48 = .ok (.getfield 7, 3) := by decide +kernel
theorem dX12_isGraveBy_51 : decode cX12_isGraveBy 51 = .ok (.iload 5, 2) := by decide +kernel
theorem dX12_isGraveBy_53 : decode cX12_isGraveBy 53 = .ok (.iconst 2, 1) := by decide +kernel
theorem dX12_isGraveBy_54 : decode cX12_isGraveBy 54 = .ok (.iadd, 1) := by decide +kernel
theorem dX12_isGraveBy_55 : decode cX12_isGraveBy 55 = .ok (.iaload, 1) := by decide +kernel
theorem dX12_isGraveBy_56 : decode cX12_isGraveBy 56 = .ok (.if_icmp .gt 7, 3) := by decide +kernel
theorem dX12_isGraveBy_59 : decode cX12_isGraveBy 59 = .ok (.iconst 1, 1) := by decide +kernel
theorem dX12_isGraveBy_60 : decode cX12_isGraveBy 60 = .ok (.goto 4, 3) := by decide +kernel
theorem dX12_isGraveBy_63 : decode cX12_isGraveBy 63 = .ok (.iconst 0, 1) := by decide +kernel
theorem dX12_isGraveBy_64 : decode cX12_isGraveBy 64 = .ok (.istore 6, 2) := by decide +kernel
theorem dX12_isGraveBy_66 : decode cX12_isGraveBy 66 = .ok (.iload_n 3, 1) := by decide +kernel
theorem dX12_isGraveBy_67 : decode cX12_isGraveBy 67 = .ok (.ifCond .eq 41, 3) := by decide +kernel
theorem dX12_isGraveBy_70 : decode cX12_isGraveBy 70 = .ok (.aload_n 0, 1) := by decide +kernel
theorem dX12_isGraveBy_71 : decode cX12_isGraveBy 71 = .ok (.getfield 7, 3) := by decide +kernel
theorem dX12_isGraveBy_74 : decode cX12_isGraveBy 74 = .ok (.iload 5, 2) := by decide +kernel
theorem dX12_isGraveBy_76 : decode cX12_isGraveBy 76 = .ok (.iaload, 1) := by decide +kernel
theorem dX12_isGraveBy_77 : decode cX12_isGraveBy 77 = .ok (.iload_n 1, 1) := by decide +kernel
theorem dX12_isGraveBy_78 : decode cX12_isGraveBy 78 = .ok (.if_icmp .ne 26, 3) := by decide +kernel
theorem dX12_isGraveBy_81 : decode cX12_isGraveBy 81 = .ok (.iload 6, 2) := by decide +kernel
theorem dX12_isGraveBy_83 : decode cX12_isGraveBy 83 = .ok (.aload_n 0, 1) := by decide +kernel
theorem dX12_isGraveBy_84 : decode cX12_isGraveBy 84 = .ok (.getfield 7, 3) := by decide +kernel
theorem dX12_isGraveBy_87 : decode cX12_isGraveBy 87 = .ok (.iload 5, 2) := by decide +kernel
theorem dX12_isGraveBy_89 : decode cX12_isGraveBy 89 = .ok (.iconst 3, 1) := by decide +kernel
theorem dX12_isGraveBy_90 : decode cX12_isGraveBy 90 = .ok (.iadd, 1) := by decide +kernel
theorem dX12_isGraveBy_91 : decode cX12_isGraveBy 91 = .ok (.iaload, 1) := by decide +kernel
theorem dX12_isGraveBy_92 : decode cX12_isGraveBy 92 = .ok (.iconst 1, 1) := by decide +kernel
theorem dX12_isGraveBy_93 : decode cX12_isGraveBy 93 = .ok (.if_icmp .ne 7, 3) := by decide +kernel
theorem dX12_isGraveBy_96 : decode cX12_isGraveBy 96 = .ok (.iconst 1, 1) := by decide +kernel
theorem dX12_isGraveBy_97 : decode cX12_isGraveBy 97 = .ok (.goto 4, 3) := by decide +kernel
theorem dX12_isGraveBy_100 : decode cX12_isGraveBy 100 = .ok (.iconst 0, 1) := by decide +kernel
theorem dX12_isGraveBy_101 : decode cX12_isGraveBy 101 = .ok (.if_icmp .ne 7, 3) := by decide +kernel
theorem dX12_isGraveBy_104 : decode cX12_isGraveBy 104 = .ok (.iconst 1, 1) := by decide +kernel
theorem dX12_isGraveBy_105 : decode cX12_isGraveBy 105 = .ok (.goto 4, 3) := by decide +kernel
theorem dX12_isGraveBy_108 : decode cX12_isGraveBy 108 = .ok (.iconst 0, 1) := by decide +kernel
theorem dX12_isGraveBy_109 : decode cX12_isGraveBy 109 = .ok (.istore_n 3, 1) := by decide +kernel
theorem dX12_isGraveBy_110 : decode cX12_isGraveBy 110 = .ok (.iinc 4 1, 3) := by decide +kernel
theorem dX12_isGraveBy_113 : decode cX12_isGraveBy 113 = .ok (.goto (-108), 3) := by decide +kernel
theorem dX12_isGraveBy_116 : decode cX12_isGraveBy 116 = .ok (.iload_n 3, 1) := by decide +kernel
theorem dX12_isGraveBy_117 : decode cX12_isGraveBy 117 = .ok (.ireturn, 1) := by decide +kernel
set_option maxRecDepth 20000 in
theorem ggX12_grave_X12_isWrong : GoodIn wsX12_grave wsX12_isWrong := goodIn_r _ [6, 7, 8, 9, 5, 10, 11, 12, 13, 14, 27, 28, 29, 30, 31, 32, 33, 34, 35, 36, 37, 38, 39, 40, 41, 42, 43, 44, 45] (by decide +kernel) (by decide +kernel)
set_option maxRecDepth 20000 in
theorem gX12_grave_X12_isWrong : GoodIn wsX12_grave (wsV RX12 118 RX12 yX12_isWrong wsX12_isWrong) := goodIn_app (goodIn_of _ (by decide +kernel)) ggX12_grave_X12_isWrong
set_option maxRecDepth 20000 in
theorem ggX12_grave_X12_in : GoodIn wsX12_grave wsX12_in := goodIn_r _ [14] (by decide +kernel) (by decide +kernel)
set_option maxRecDepth 20000 in
theorem gX12_grave_X12_in : GoodIn wsX12_grave (va_wsS RX12 55 yX12_in wsX12_in) := goodIn_app (goodIn_of _ (by decide +kernel)) ggX12_grave_X12_in
set_option maxRecDepth 20000 in
theorem ggX12_grave_X12_bad : GoodIn wsX12_grave wsX12_bad := goodIn_r _ [18, 19, 27, 28, 29, 30, 31, 32, 33, 34, 35, 36, 37, 38, 39, 40, 41, 42, 43, 44, 45] (by decide +kernel) (by decide +kernel)
set_option maxRecDepth 20000 in
theorem gX12_grave_X12_bad : GoodIn wsX12_grave (wsV RX12 71 RX12 yX12_bad wsX12_bad) := goodIn_app (goodIn_of _ (by decide +kernel)) ggX12_grave_X12_bad
set_option maxRecDepth 20000 in
theorem ggX12_grave_X12_isGraveBy : GoodIn wsX12_grave wsX12_isGraveBy := goodIn_r _ [23, 11, 24, 25, 5, 26, 27, 28, 29, 30, 31, 32, 33, 34, 35, 36, 37, 38, 39, 40, 41, 42, 43, 44, 45] (by decide +kernel) (by decide +kernel)
set_option maxRecDepth 20000 in
theorem gX12_grave_X12_isGraveBy : GoodIn wsX12_grave (wsV RX12 176 RX12 yX12_isGraveBy wsX12_isGraveBy) := goodIn_app (goodIn_of _ (by decide +kernel)) ggX12_grave_X12_isGraveBy
theorem dX12_grave_0 : decode cX12_grave 0 = .ok (.aload_n 0, 1) := by decide +kernel
theorem dX12_grave_1 : decode cX12_grave 1 = .ok (.iload_n 1, 1) := by decide +kernel
theorem dX12_grave_2 : decode cX12_grave 2 = .ok (.invokevirtual 118, 3) := by decide +kernel
theorem dX12_grave_5 : decode cX12_grave 5 = .ok (.ifCond .eq 15, 3) := by decide +kernel
theorem dX12_grave_8 : decode cX12_grave 8 = .ok (.iload_n 2, 1) := by decide +kernel
theorem dX12_grave_9 : decode cX12_grave 9 = .ok (.i2l, 1) := by decide +kernel
theorem dX12_grave_10 : decode cX12_grave 10 = .ok (.lconst 0, 1) := by decide +kernel
theorem dX12_grave_11 : decode cX12_grave 11 = .ok (.ldc2_w 174, 3) := by decide +kernel
theorem dX12_grave_14 : decode cX12_grave 14 = .ok (.invokestatic 55, 3) := by decide +kernel
theorem dX12_grave_17 : decode cX12_grave 17 = .ok (.ifCond .ne 10, 3) := by decide +kernel
theorem dX12_grave_20 : decode cX12_grave 20 = .ok (.aload_n 0, 1) := by decide +kernel
theorem dX12_grave_21 : decode cX12_grave 21 = .ok (.bipush (-2), 2) := by decide +kernel
theorem dX12_grave_23 : decode cX12_grave 23 = .ok (.invokevirtual 71, 3) := by decide +kernel
theorem dX12_grave_26 : decode cX12_grave 26 = .ok (.ireturn, 1) := by decide +kernel
theorem dX12_grave_27 : decode cX12_grave 27 = .ok (.iconst 0, 1) := by decide +kernel
theorem dX12_grave_28 : decode cX12_grave 28 = .ok (.istore_n 3, 1) := by decide +kernel
theorem dX12_grave_29 : decode cX12_grave 29 = .ok (.iconst (-1), 1) := by decide +kernel
theorem dX12_grave_30 : decode cX12_grave 30 = .ok (.istore 4, 2) := by decide +kernel
theorem dX12_grave_32 : decode cX12_grave 32 = .ok (.iconst (-1), 1) := by decide +kernel
theorem dX12_grave_33 : decode cX12_grave 33 = .ok (.istore 5, 2) := by decide +kernel
theorem dX12_grave_35 : decode cX12_grave 35 = .ok (.iconst 1, 1) := by decide +kernel
theorem dX12_grave_36 : decode cX12_grave 36 = .ok (.istore 6, 2) := by decide +kernel
theorem dX12_grave_38 : decode cX12_grave 38 = .ok (.iload 6, 2) := by decide +kernel
theorem dX12_grave_40 : decode cX12_grave 40 = .ok (.bipush 10, 2) := by decide +kernel
theorem dX12_grave_42 : decode cX12_grave 42 = .ok (.if_icmp .ge 39, 3) := by decide +kernel
theorem dX12_grave_45 : decode cX12_grave 45 = .ok (.aload_n 0, 1) := by decide +kernel
theorem dX12_grave_46 : decode cX12_grave 46 = .ok (.iload_n 1, 1) := by decide +kernel
theorem dX12_grave_47 : decode cX12_grave 47 = .ok (.iload 6, 2) := by decide +kernel
theorem dX12_grave_49 : decode cX12_grave 49 = .ok (.invokevirtual 176, 3) := by decide +kernel
theorem dX12_grave_52 : decode cX12_grave 52 = .ok (.ifCond .eq 23, 3) := by decide +kernel
theorem dX12_grave_55 : decode cX12_grave 55 = .ok (.iload_n 3, 1) := by decide +kernel
theorem dX12_grave_56 : decode cX12_grave 56 = .ok (.ifCond .ne 8, 3) := by decide +kernel
theorem dX12_grave_59 : decode cX12_grave 59 = .ok (.iload 6, 2) := by decide +kernel
theorem dX12_grave_61 : decode cX12_grave 61 = .ok (.goto 5, 3) := by decide +kernel
theorem dX12_grave_64 : decode cX12_grave 64 = .ok (.iload 4, 2) := by decide +kernel
theorem dX12_grave_66 : decode cX12_grave 66 = .ok (.istore 4, 2) := by decide +kernel
theorem dX12_grave_68 : decode cX12_grave 68 = .ok (.iload 6, 2) := by decide +kernel
theorem dX12_grave_70 : decode cX12_grave 70 = .ok (.istore 5, 2) := by decide +kernel
theorem dX12_grave_72 : decode cX12_grave 72 = .ok (.iinc 3 1, 3) := by decide +kernel
theorem dX12_grave_75 : decode cX12_grave 75 = .ok (.iinc 6 1, 3) := by decide +kernel
theorem dX12_grave_78 : decode cX12_grave 78 = .ok (.goto (-40), 3) := by decide +kernel
theorem dX12_grave_81 : decode cX12_grave 81 = .ok (.iload_n 2, 1) := by decide +kernel
theorem dX12_grave_82 : decode cX12_grave 82 = .ok (.ifCond .ne 7, 3) := by decide +kernel
theorem dX12_grave_85 : decode cX12_grave 85 = .ok (.iload_n 3, 1) := by decide +kernel
theorem dX12_grave_86 : decode cX12_grave 86 = .ok (.goto 15, 3) := by decide +kernel
theorem dX12_grave_89 : decode cX12_grave 89 = .ok (.iload_n 2, 1) := by decide +kernel
theorem dX12_grave_90 : decode cX12_grave 90 = .ok (.iconst 1, 1) := by decide +kernel
theorem dX12_grave_91 : decode cX12_grave 91 = .ok (.if_icmp .ne 8, 3) := by decide +kernel
theorem dX12_grave_94 : decode cX12_grave 94 = .ok (.iload 4, 2) := by decide +kernel
theorem dX12_grave_96 : decode cX12_grave 96 = .ok (.goto 5, 3) := by decide +kernel
theorem dX12_grave_99 : decode cX12_grave 99 = .ok (.iload 5, 2) := by decide +kernel
theorem dX12_grave_101 : decode cX12_grave 101 = .ok (.ireturn, 1) := by decide +kernel
set_option maxRecDepth 20000 in
theorem ggX12_tell_X12_isWrong : GoodIn wsX12_tell wsX12_isWrong := goodIn_r _ [7, 8, 9, 10, 6, 11, 2, 12, 13, 14, 27, 28, 29, 30, 31, 32, 33, 34, 35, 36, 37, 38, 39, 40, 41, 42, 43, 44, 45] (by decide +kernel) (by decide +kernel)
set_option maxRecDepth 20000 in
theorem gX12_tell_X12_isWrong : GoodIn wsX12_tell (wsV RX12 118 RX12 yX12_isWrong wsX12_isWrong) := goodIn_app (goodIn_of _ (by decide +kernel)) ggX12_tell_X12_isWrong
set_option maxRecDepth 20000 in
theorem ggX12_tell_X12_bad : GoodIn wsX12_tell wsX12_bad := goodIn_r _ [18, 19, 27, 28, 29, 30, 31, 32, 33, 34, 35, 36, 37, 38, 39, 40, 41, 42, 43, 44, 45] (by decide +kernel) (by decide +kernel)
set_option maxRecDepth 20000 in
theorem gX12_tell_X12_bad : GoodIn wsX12_tell (wsV RX12 71 RX12 yX12_bad wsX12_bad) := goodIn_app (goodIn_of _ (by decide +kernel)) ggX12_tell_X12_bad
set_option maxRecDepth 20000 in
theorem ggX12_tell_X12_weighsAs : GoodIn wsX12_tell wsX12_weighsAs := goodIn_r _ [22] (by decide +kernel) (by decide +kernel)
set_option maxRecDepth 20000 in
theorem gX12_tell_X12_weighsAs : GoodIn wsX12_tell (va_wsS RX12 88 yX12_weighsAs wsX12_weighsAs) := goodIn_app (goodIn_of _ (by decide +kernel)) ggX12_tell_X12_weighsAs
set_option maxRecDepth 20000 in
theorem ggX12_tell_X12_isGraveBy : GoodIn wsX12_tell wsX12_isGraveBy := goodIn_r _ [26, 2, 20, 21, 6, 22, 27, 28, 29, 30, 31, 32, 33, 34, 35, 36, 37, 38, 39, 40, 41, 42, 43, 44, 45] (by decide +kernel) (by decide +kernel)
set_option maxRecDepth 20000 in
theorem gX12_tell_X12_isGraveBy : GoodIn wsX12_tell (wsV RX12 176 RX12 yX12_isGraveBy wsX12_isGraveBy) := goodIn_app (goodIn_of _ (by decide +kernel)) ggX12_tell_X12_isGraveBy
theorem dX12_tell_0 : decode cX12_tell 0 = .ok (.aload_n 0, 1) := by decide +kernel
theorem dX12_tell_1 : decode cX12_tell 1 = .ok (.iload_n 1, 1) := by decide +kernel
theorem dX12_tell_2 : decode cX12_tell 2 = .ok (.invokevirtual 118, 3) := by decide +kernel
theorem dX12_tell_5 : decode cX12_tell 5 = .ok (.ifCond .ne 10, 3) := by decide +kernel
theorem dX12_tell_8 : decode cX12_tell 8 = .ok (.aload_n 0, 1) := by decide +kernel
theorem dX12_tell_9 : decode cX12_tell 9 = .ok (.bipush (-2), 2) := by decide +kernel
theorem dX12_tell_11 : decode cX12_tell 11 = .ok (.invokevirtual 71, 3) := by decide +kernel
theorem dX12_tell_14 : decode cX12_tell 14 = .ok (.ireturn, 1) := by decide +kernel
theorem dX12_tell_15 : decode cX12_tell 15 = .ok (.iconst (-1), 1) := by decide +kernel
theorem dX12_tell_16 : decode cX12_tell 16 = .ok (.istore_n 2, 1) := by decide +kernel
theorem dX12_tell_17 : decode cX12_tell 17 = .ok (.ldc 155, 2) := by decide +kernel
theorem dX12_tell_19 : decode cX12_tell 19 = .ok (.istore_n 3, 1) := by decide +kernel
theorem dX12_tell_20 : decode cX12_tell 20 = .ok (.iconst 0, 1) := by decide +kernel
theorem dX12_tell_21 : decode cX12_tell 21 = .ok (.istore 4, 2) := by decide +kernel
theorem dX12_tell_23 : decode cX12_tell 23 = .ok (.iload 4, 2) := by decide +kernel
theorem dX12_tell_25 : decode cX12_tell 25 = .ok (.bipush 10, 2) := by decide +kernel
theorem dX12_tell_27 : decode cX12_tell 27 = .ok (.if_icmp .ge 183, 3) := by decide +kernel
theorem dX12_tell_30 : decode cX12_tell 30 = .ok (.iconst 0, 1) := by decide +kernel
theorem dX12_tell_31 : decode cX12_tell 31 = .ok (.istore 5, 2) := by decide +kernel
theorem dX12_tell_33 : decode cX12_tell 33 = .ok (.iload 5, 2) := by decide +kernel
theorem dX12_tell_35 : decode cX12_tell 35 = .ok (.bipush 20, 2) := by decide +kernel
theorem dX12_tell_37 : decode cX12_tell 37 = .ok (.if_icmp .gt 167, 3) := by decide +kernel
theorem dX12_tell_40 : decode cX12_tell 40 = .ok (.iconst 0, 1) := by decide +kernel
theorem dX12_tell_41 : decode cX12_tell 41 = .ok (.istore 6, 2) := by decide +kernel
theorem dX12_tell_43 : decode cX12_tell 43 = .ok (.iconst 0, 1) := by decide +kernel
theorem dX12_tell_44 : decode cX12_tell 44 = .ok (.istore 7, 2) := by decide +kernel
theorem dX12_tell_46 : decode cX12_tell 46 = .ok (.iconst 1, 1) := by decide +kernel
theorem dX12_tell_47 : decode cX12_tell 47 = .ok (.istore 8, 2) := by decide +kernel
theorem dX12_tell_49 : decode cX12_tell 49 = .ok (.iload 8, 2) := by decide +kernel
theorem dX12_tell_51 : decode cX12_tell 51 = .ok (.bipush 10, 2) := by decide +kernel
theorem dX12_tell_53 : decode cX12_tell 53 = .ok (.if_icmp .ge 87, 3) := by decide +kernel
theorem dX12_tell_56 : decode cX12_tell 56 = .ok (.aload_n 0, 1) := by decide +kernel
theorem dX12_tell_57 : decode cX12_tell 57 = .ok (.getfield 7, 3) := by decide +kernel
theorem dX12_tell_60 : decode cX12_tell 60 = .ok (.bipush 28, 2) := by decide +kernel
theorem dX12_tell_62 : decode cX12_tell 62 = .ok (.iload_n 1, 1) := by decide +kernel
theorem dX12_tell_63 : decode cX12_tell 63 = .ok (.iadd, 1) := by decide +kernel
theorem dX12_tell_64 : decode cX12_tell 64 = .ok (.iaload, 1) := by decide +kernel
theorem dX12_tell_65 : decode cX12_tell 65 = .ok (.iload 8, 2) := by decide +kernel
theorem dX12_tell_67 : decode cX12_tell 67 = .ok (.iload 4, 2) := by decide +kernel
theorem dX12_tell_69 : decode cX12_tell 69 = .ok (.invokestatic 88, 3) := by decide +kernel
theorem dX12_tell_72 : decode cX12_tell 72 = .ok (.iload 5, 2) := by decide +kernel
theorem dX12_tell_74 : decode cX12_tell 74 = .ok (.if_icmp .gt 7, 3) := by decide +kernel
theorem dX12_tell_77 : decode cX12_tell 77 = .ok (.iconst 1, 1) := by decide +kernel
theorem dX12_tell_78 : decode cX12_tell 78 = .ok (.goto 4, 3) := by decide +kernel
theorem dX12_tell_81 : decode cX12_tell 81 = .ok (.iconst 0, 1) := by decide +kernel
theorem dX12_tell_82 : decode cX12_tell 82 = .ok (.istore 9, 2) := by decide +kernel
theorem dX12_tell_84 : decode cX12_tell 84 = .ok (.iload 6, 2) := by decide +kernel
theorem dX12_tell_86 : decode cX12_tell 86 = .ok (.aload_n 0, 1) := by decide +kernel
theorem dX12_tell_87 : decode cX12_tell 87 = .ok (.iload_n 1, 1) := by decide +kernel
theorem dX12_tell_88 : decode cX12_tell 88 = .ok (.iload 8, 2) := by decide +kernel
theorem dX12_tell_90 : decode cX12_tell 90 = .ok (.invokevirtual 176, 3) := by decide +kernel
theorem dX12_tell_93 : decode cX12_tell 93 = .ok (.ifCond .eq 12, 3) := by decide +kernel
theorem dX12_tell_96 : decode cX12_tell 96 = .ok (.iload 9, 2) := by decide +kernel
theorem dX12_tell_98 : decode cX12_tell 98 = .ok (.ifCond .eq 7, 3) := by decide +kernel
theorem dX12_tell_101 : decode cX12_tell 101 = .ok (.iconst 1, 1) := by decide +kernel
theorem dX12_tell_102 : decode cX12_tell 102 = .ok (.goto 4, 3) := by decide +kernel
theorem dX12_tell_105 : decode cX12_tell 105 = .ok (.iconst 0, 1) := by decide +kernel
theorem dX12_tell_106 : decode cX12_tell 106 = .ok (.iadd, 1) := by decide +kernel
theorem dX12_tell_107 : decode cX12_tell 107 = .ok (.istore 6, 2) := by decide +kernel
theorem dX12_tell_109 : decode cX12_tell 109 = .ok (.iload 7, 2) := by decide +kernel
theorem dX12_tell_111 : decode cX12_tell 111 = .ok (.aload_n 0, 1) := by decide +kernel
theorem dX12_tell_112 : decode cX12_tell 112 = .ok (.iload_n 1, 1) := by decide +kernel
theorem dX12_tell_113 : decode cX12_tell 113 = .ok (.iload 8, 2) := by decide +kernel
theorem dX12_tell_115 : decode cX12_tell 115 = .ok (.invokevirtual 176, 3) := by decide +kernel
theorem dX12_tell_118 : decode cX12_tell 118 = .ok (.ifCond .eq 12, 3) := by decide +kernel
theorem dX12_tell_121 : decode cX12_tell 121 = .ok (.iload 9, 2) := by decide +kernel
theorem dX12_tell_123 : decode cX12_tell 123 = .ok (.ifCond .ne 7, 3) := by decide +kernel
theorem dX12_tell_126 : decode cX12_tell 126 = .ok (.iconst 1, 1) := by decide +kernel
theorem dX12_tell_127 : decode cX12_tell 127 = .ok (.goto 4, 3) := by decide +kernel
theorem dX12_tell_130 : decode cX12_tell 130 = .ok (.iconst 0, 1) := by decide +kernel
theorem dX12_tell_131 : decode cX12_tell 131 = .ok (.iadd, 1) := by decide +kernel
theorem dX12_tell_132 : decode cX12_tell 132 = .ok (.istore 7, 2) := by decide +kernel
theorem dX12_tell_134 : decode cX12_tell 134 = .ok (.iinc 8 1, 3) := by decide +kernel
theorem dX12_tell_137 : decode cX12_tell 137 = .ok (.goto (-88), 3) := by decide +kernel
theorem dX12_tell_140 : decode cX12_tell 140 = .ok (.iload 6, 2) := by decide +kernel
theorem dX12_tell_142 : decode cX12_tell 142 = .ok (.iload 7, 2) := by decide +kernel
theorem dX12_tell_144 : decode cX12_tell 144 = .ok (.if_icmp .le 8, 3) := by decide +kernel
theorem dX12_tell_147 : decode cX12_tell 147 = .ok (.iload 6, 2) := by decide +kernel
theorem dX12_tell_149 : decode cX12_tell 149 = .ok (.goto 5, 3) := by decide +kernel
theorem dX12_tell_152 : decode cX12_tell 152 = .ok (.iload 7, 2) := by decide +kernel
theorem dX12_tell_154 : decode cX12_tell 154 = .ok (.istore 8, 2) := by decide +kernel
theorem dX12_tell_156 : decode cX12_tell 156 = .ok (.iload 8, 2) := by decide +kernel
theorem dX12_tell_158 : decode cX12_tell 158 = .ok (.ifCond .le 20, 3) := by decide +kernel
theorem dX12_tell_161 : decode cX12_tell 161 = .ok (.iload 8, 2) := by decide +kernel
theorem dX12_tell_163 : decode cX12_tell 163 = .ok (.iload_n 3, 1) := by decide +kernel
theorem dX12_tell_164 : decode cX12_tell 164 = .ok (.if_icmp .ge 14, 3) := by decide +kernel
theorem dX12_tell_167 : decode cX12_tell 167 = .ok (.bipush 100, 2) := by decide +kernel
theorem dX12_tell_169 : decode cX12_tell 169 = .ok (.iload 4, 2) := by decide +kernel
theorem dX12_tell_171 : decode cX12_tell 171 = .ok (.imul, 1) := by decide +kernel
theorem dX12_tell_172 : decode cX12_tell 172 = .ok (.iload 5, 2) := by decide +kernel
theorem dX12_tell_174 : decode cX12_tell 174 = .ok (.iadd, 1) := by decide +kernel
theorem dX12_tell_175 : decode cX12_tell 175 = .ok (.goto 4, 3) := by decide +kernel
theorem dX12_tell_178 : decode cX12_tell 178 = .ok (.iload_n 2, 1) := by decide +kernel
theorem dX12_tell_179 : decode cX12_tell 179 = .ok (.istore_n 2, 1) := by decide +kernel
theorem dX12_tell_180 : decode cX12_tell 180 = .ok (.iload 8, 2) := by decide +kernel
theorem dX12_tell_182 : decode cX12_tell 182 = .ok (.ifCond .le 14, 3) := by decide +kernel
theorem dX12_tell_185 : decode cX12_tell 185 = .ok (.iload 8, 2) := by decide +kernel
theorem dX12_tell_187 : decode cX12_tell 187 = .ok (.iload_n 3, 1) := by decide +kernel
theorem dX12_tell_188 : decode cX12_tell 188 = .ok (.if_icmp .ge 8, 3) := by decide +kernel
theorem dX12_tell_191 : decode cX12_tell 191 = .ok (.iload 8, 2) := by decide +kernel
theorem dX12_tell_193 : decode cX12_tell 193 = .ok (.goto 4, 3) := by decide +kernel
theorem dX12_tell_196 : decode cX12_tell 196 = .ok (.iload_n 3, 1) := by decide +kernel
theorem dX12_tell_197 : decode cX12_tell 197 = .ok (.istore_n 3, 1) := by decide +kernel
theorem dX12_tell_198 : decode cX12_tell 198 = .ok (.iinc 5 1, 3) := by decide +kernel
theorem dX12_tell_201 : decode cX12_tell 201 = .ok (.goto (-168), 3) := by decide +kernel
theorem dX12_tell_204 : decode cX12_tell 204 = .ok (.iinc 4 1, 3) := by decide +kernel
theorem dX12_tell_207 : decode cX12_tell 207 = .ok (.goto (-184), 3) := by decide +kernel
theorem dX12_tell_210 : decode cX12_tell 210 = .ok (.iload_n 2, 1) := by decide +kernel
theorem dX12_tell_211 : decode cX12_tell 211 = .ok (.ireturn, 1) := by decide +kernel
set_option maxRecDepth 20000 in
theorem ggX12_note_X12_isWrong : GoodIn wsX12_note wsX12_isWrong := goodIn_r _ [8, 9, 10, 11, 7, 12, 3, 13, 14, 15, 33, 34, 35, 36, 37, 38, 39, 40, 41, 42, 43, 44, 45, 46, 47, 48, 49, 50, 51] (by decide +kernel) (by decide +kernel)
set_option maxRecDepth 20000 in
theorem gX12_note_X12_isWrong : GoodIn wsX12_note (wsV RX12 118 RX12 yX12_isWrong wsX12_isWrong) := goodIn_app (goodIn_of _ (by decide +kernel)) ggX12_note_X12_isWrong
set_option maxRecDepth 20000 in
theorem ggX12_note_X12_isGravity : GoodIn wsX12_note wsX12_isGravity := goodIn_r _ [18, 19, 13, 14, 7, 15] (by decide +kernel) (by decide +kernel)
set_option maxRecDepth 20000 in
theorem gX12_note_X12_isGravity : GoodIn wsX12_note (va_wsS RX12 81 yX12_isGravity wsX12_isGravity) := goodIn_app (goodIn_of _ (by decide +kernel)) ggX12_note_X12_isGravity
set_option maxRecDepth 20000 in
theorem ggX12_note_X12_in : GoodIn wsX12_note wsX12_in := goodIn_r _ [15] (by decide +kernel) (by decide +kernel)
set_option maxRecDepth 20000 in
theorem gX12_note_X12_in : GoodIn wsX12_note (va_wsS RX12 55 yX12_in wsX12_in) := goodIn_app (goodIn_of _ (by decide +kernel)) ggX12_note_X12_in
set_option maxRecDepth 20000 in
theorem ggX12_note_X12_bad : GoodIn wsX12_note wsX12_bad := goodIn_r _ [23, 24, 33, 34, 35, 36, 37, 38, 39, 40, 41, 42, 43, 44, 45, 46, 47, 48, 49, 50, 51] (by decide +kernel) (by decide +kernel)
set_option maxRecDepth 20000 in
theorem gX12_note_X12_bad : GoodIn wsX12_note (wsV RX12 71 RX12 yX12_bad wsX12_bad) := goodIn_app (goodIn_of _ (by decide +kernel)) ggX12_note_X12_bad
set_option maxRecDepth 20000 in
theorem ggX12_note_X12_full : GoodIn wsX12_note wsX12_full := goodIn_r _ [28, 24, 33, 34, 35, 36, 37, 38, 39, 40, 41, 42, 43, 44, 45, 46, 47, 48, 49, 50, 51] (by decide +kernel) (by decide +kernel)
set_option maxRecDepth 20000 in
theorem gX12_note_X12_full : GoodIn wsX12_note (wsV RX12 75 RX12 yX12_full wsX12_full) := goodIn_app (goodIn_of _ (by decide +kernel)) ggX12_note_X12_full
set_option maxRecDepth 20000 in
theorem ggX12_note_X12_layFour : GoodIn wsX12_note wsX12_layFour := goodIn_r _ [32, 3, 33, 34, 35, 36, 37, 38, 39, 40, 41, 42, 43, 44, 45, 46, 47, 48, 49, 50, 51] (by decide +kernel) (by decide +kernel)
set_option maxRecDepth 20000 in
theorem gX12_note_X12_layFour : GoodIn wsX12_note (wsV RX12 170 RX12 yX12_layFour wsX12_layFour) := goodIn_app (goodIn_of _ (by decide +kernel)) ggX12_note_X12_layFour
theorem dX12_note_0 : decode cX12_note 0 = .ok (.aload_n 0, 1) := by decide +kernel
theorem dX12_note_1 : decode cX12_note 1 = .ok (.iload_n 1, 1) := by decide +kernel
theorem dX12_note_2 : decode cX12_note 2 = .ok (.invokevirtual 118, 3) := by decide +kernel
theorem dX12_note_5 : decode cX12_note 5 = .ok (.ifCond .eq 35, 3) := by decide +kernel
theorem dX12_note_8 : decode cX12_note 8 = .ok (.iload_n 2, 1) := by decide +kernel
theorem dX12_note_9 : decode cX12_note 9 = .ok (.invokestatic 81, 3) := by decide +kernel
theorem dX12_note_12 : decode cX12_note 12 = .ok (.ifCond .eq 28, 3) := by decide +kernel
theorem dX12_note_15 : decode cX12_note 15 = .ok (.iload_n 3, 1) := by decide +kernel
theorem dX12_note_16 : decode cX12_note 16 = .ok (.i2l, 1) := by decide +kernel
theorem dX12_note_17 : decode cX12_note 17 = .ok (.lconst 0, 1) := by decide +kernel
theorem dX12_note_18 : decode cX12_note 18 = .ok (.ldc2_w 166, 3) := by decide +kernel
theorem dX12_note_21 : decode cX12_note 21 = .ok (.invokestatic 55, 3) := by decide +kernel
theorem dX12_note_24 : decode cX12_note 24 = .ok (.ifCond .eq 16, 3) := by decide +kernel
theorem dX12_note_27 : decode cX12_note 27 = .ok (.iload 4, 2) := by decide +kernel
theorem dX12_note_29 : decode cX12_note 29 = .ok (.i2l, 1) := by decide +kernel
theorem dX12_note_30 : decode cX12_note 30 = .ok (.lconst 0, 1) := by decide +kernel
theorem dX12_note_31 : decode cX12_note 31 = .ok (.ldc2_w 168, 3) := by decide +kernel
theorem dX12_note_34 : decode cX12_note 34 = .ok (.invokestatic 55, 3) := by decide +kernel
theorem dX12_note_37 : decode cX12_note 37 = .ok (.ifCond .ne 10, 3) := by decide +kernel
theorem dX12_note_40 : decode cX12_note 40 = .ok (.aload_n 0, 1) := by decide +kernel
theorem dX12_note_41 : decode cX12_note 41 = .ok (.bipush (-2), 2) := by decide +kernel
theorem dX12_note_43 : decode cX12_note 43 = .ok (.invokevirtual 71, 3) := by decide +kernel
theorem dX12_note_46 : decode cX12_note 46 = .ok (.ireturn, 1) := by decide +kernel
theorem dX12_note_47 : decode cX12_note 47 = .ok (.aload_n 0, 1) := by decide +kernel
theorem dX12_note_48 : decode cX12_note 48 = .ok (.getfield 7, 3) := by decide +kernel
theorem dX12_note_51 : decode cX12_note 51 = .ok (.iconst 3, 1) := by decide +kernel
theorem dX12_note_52 : decode cX12_note 52 = .ok (.iaload, 1) := by decide +kernel
theorem dX12_note_53 : decode cX12_note 53 = .ok (.bipush 6, 2) := by decide +kernel
theorem dX12_note_55 : decode cX12_note 55 = .ok (.if_icmp .ne 8, 3) := by decide +kernel
theorem dX12_note_58 : decode cX12_note 58 = .ok (.aload_n 0, 1) := by decide +kernel
theorem dX12_note_59 : decode cX12_note 59 = .ok (.invokevirtual 75, 3) := by decide +kernel
theorem dX12_note_62 : decode cX12_note 62 = .ok (.ireturn, 1) := by decide +kernel
theorem dX12_note_63 : decode cX12_note 63 = .ok (.aload_n 0, 1) := by decide +kernel
theorem dX12_note_64 : decode cX12_note 64 = .ok (.bipush 80, 2) := by decide +kernel
theorem dX12_note_66 : decode cX12_note 66 = .ok (.iconst 4, 1) := by decide +kernel
theorem dX12_note_67 : decode cX12_note 67 = .ok (.aload_n 0, 1) := by decide +kernel
theorem dX12_note_68 : decode cX12_note 68 = .ok (.getfield 7, 3) := by decide +kernel
theorem dX12_note_71 : decode cX12_note 71 = .ok (.iconst 3, 1) := by decide +kernel
theorem dX12_note_72 : decode cX12_note 72 = .ok (.iaload, 1) := by decide +kernel
theorem dX12_note_73 : decode cX12_note 73 = .ok (.imul, 1) := by decide +kernel
theorem dX12_note_74 : decode cX12_note 74 = .ok (.iadd, 1) := by decide +kernel
theorem dX12_note_75 : decode cX12_note 75 = .ok (.iload_n 1, 1) := by decide +kernel
theorem dX12_note_76 : decode cX12_note 76 = .ok (.iload_n 2, 1) := by decide +kernel
theorem dX12_note_77 : decode cX12_note 77 = .ok (.iload_n 3, 1) := by decide +kernel
theorem dX12_note_78 : decode cX12_note 78 = .ok (.iload 4, 2) := by decide +kernel
theorem dX12_note_80 : decode cX12_note 80 = .ok (.invokevirtual 170, 3) := by decide +kernel
theorem dX12_note_83 : decode cX12_note 83 = .ok (.aload_n 0, 1) := by decide +kernel
theorem dX12_note_84 : decode cX12_note 84 = .ok (.getfield 7, 3) := by decide +kernel
theorem dX12_note_87 : decode cX12_note 87 = .ok (.iconst 3, 1) := by decide +kernel
theorem dX12_note_88 : decode cX12_note 88 = .ok (.dup2, 1) := by decide +kernel
theorem dX12_note_89 : decode cX12_note 89 = .ok (.iaload, 1) := by decide +kernel
theorem dX12_note_90 : decode cX12_note 90 = .ok (.iconst 1, 1) := by decide +kernel
theorem dX12_note_91 : decode cX12_note 91 = .ok (.iadd, 1) := by decide +kernel
theorem dX12_note_92 : decode cX12_note 92 = .ok (.iastore, 1) := by decide +kernel
theorem dX12_note_93 : decode cX12_note 93 = .ok (.aload_n 0, 1) := by decide +kernel
theorem dX12_note_94 : decode cX12_note 94 = .ok (.getfield 7, 3) := by decide +kernel
theorem dX12_note_97 : decode cX12_note 97 = .ok (.iconst 3, 1) := by decide +kernel
theorem dX12_note_98 : decode cX12_note 98 = .ok (.iaload, 1) := by decide +kernel
theorem dX12_note_99 : decode cX12_note 99 = .ok (.ireturn, 1) := by decide +kernel
set_option maxRecDepth 20000 in
theorem ggX12_mark_X12_isOne : GoodIn wsX12_mark wsX12_isOne := goodIn_r _ [9, 4, 10, 11, 8, 12, 26, 27, 28, 29, 30, 31, 32, 33, 34, 35, 36, 37, 38, 39, 40, 41, 42, 43, 44] (by decide +kernel) (by decide +kernel)
set_option maxRecDepth 20000 in
theorem gX12_mark_X12_isOne : GoodIn wsX12_mark (wsV RX12 78 RX12 yX12_isOne wsX12_isOne) := goodIn_app (goodIn_of _ (by decide +kernel)) ggX12_mark_X12_isOne
set_option maxRecDepth 20000 in
theorem ggX12_mark_X12_in : GoodIn wsX12_mark wsX12_in := goodIn_r _ [12] (by decide +kernel) (by decide +kernel)
set_option maxRecDepth 20000 in
theorem gX12_mark_X12_in : GoodIn wsX12_mark (va_wsS RX12 55 yX12_in wsX12_in) := goodIn_app (goodIn_of _ (by decide +kernel)) ggX12_mark_X12_in
set_option maxRecDepth 20000 in
theorem ggX12_mark_X12_bad : GoodIn wsX12_mark wsX12_bad := goodIn_r _ [16, 17, 26, 27, 28, 29, 30, 31, 32, 33, 34, 35, 36, 37, 38, 39, 40, 41, 42, 43, 44] (by decide +kernel) (by decide +kernel)
set_option maxRecDepth 20000 in
theorem gX12_mark_X12_bad : GoodIn wsX12_mark (wsV RX12 71 RX12 yX12_bad wsX12_bad) := goodIn_app (goodIn_of _ (by decide +kernel)) ggX12_mark_X12_bad
set_option maxRecDepth 20000 in
theorem ggX12_mark_X12_full : GoodIn wsX12_mark wsX12_full := goodIn_r _ [21, 17, 26, 27, 28, 29, 30, 31, 32, 33, 34, 35, 36, 37, 38, 39, 40, 41, 42, 43, 44] (by decide +kernel) (by decide +kernel)
set_option maxRecDepth 20000 in
theorem gX12_mark_X12_full : GoodIn wsX12_mark (wsV RX12 75 RX12 yX12_full wsX12_full) := goodIn_app (goodIn_of _ (by decide +kernel)) ggX12_mark_X12_full
set_option maxRecDepth 20000 in
theorem ggX12_mark_X12_layFour : GoodIn wsX12_mark wsX12_layFour := goodIn_r _ [25, 4, 26, 27, 28, 29, 30, 31, 32, 33, 34, 35, 36, 37, 38, 39, 40, 41, 42, 43, 44] (by decide +kernel) (by decide +kernel)
set_option maxRecDepth 20000 in
theorem gX12_mark_X12_layFour : GoodIn wsX12_mark (wsV RX12 170 RX12 yX12_layFour wsX12_layFour) := goodIn_app (goodIn_of _ (by decide +kernel)) ggX12_mark_X12_layFour
theorem dX12_mark_0 : decode cX12_mark 0 = .ok (.aload_n 0, 1) := by decide +kernel
theorem dX12_mark_1 : decode cX12_mark 1 = .ok (.iload_n 1, 1) := by decide +kernel
theorem dX12_mark_2 : decode cX12_mark 2 = .ok (.invokevirtual 78, 3) := by decide +kernel
theorem dX12_mark_5 : decode cX12_mark 5 = .ok (.ifCond .eq 40, 3) := by decide +kernel
theorem dX12_mark_8 : decode cX12_mark 8 = .ok (.iload_n 2, 1) := by decide +kernel
theorem dX12_mark_9 : decode cX12_mark 9 = .ok (.i2l, 1) := by decide +kernel
theorem dX12_mark_10 : decode cX12_mark 10 = .ok (.lconst 0, 1) := by decide +kernel
theorem dX12_mark_11 : decode cX12_mark 11 = .ok (.ldc2_w 65, 3) := by decide +kernel
theorem dX12_mark_14 : decode cX12_mark 14 = .ok (.invokestatic 55, 3) := by decide +kernel
theorem dX12_mark_17 : decode cX12_mark 17 = .ok (.ifCond .eq 28, 3) := by decide +kernel
theorem dX12_mark_20 : decode cX12_mark 20 = .ok (.iload_n 3, 1) := by decide +kernel
theorem dX12_mark_21 : decode cX12_mark 21 = .ok (.i2l, 1) := by decide +kernel
theorem dX12_mark_22 : decode cX12_mark 22 = .ok (.lconst 0, 1) := by decide +kernel
theorem dX12_mark_23 : decode cX12_mark 23 = .ok (.ldc2_w 166, 3) := by decide +kernel
theorem dX12_mark_26 : decode cX12_mark 26 = .ok (.invokestatic 55, 3) := by decide +kernel
theorem dX12_mark_29 : decode cX12_mark 29 = .ok (.ifCond .eq 16, 3) := by decide +kernel
theorem dX12_mark_32 : decode cX12_mark 32 = .ok (.iload 4, 2) := by decide +kernel
theorem dX12_mark_34 : decode cX12_mark 34 = .ok (.i2l, 1) := by decide +kernel
theorem dX12_mark_35 : decode cX12_mark 35 = .ok (.lconst 0, 1) := by decide +kernel
theorem dX12_mark_36 : decode cX12_mark 36 = .ok (.ldc2_w 109, 3) := by decide +kernel
theorem dX12_mark_39 : decode cX12_mark 39 = .ok (.invokestatic 55, 3) := by decide +kernel
theorem dX12_mark_42 : decode cX12_mark 42 = .ok (.ifCond .ne 10, 3) := by decide +kernel
theorem dX12_mark_45 : decode cX12_mark 45 = .ok (.aload_n 0, 1) := by decide +kernel
theorem dX12_mark_46 : decode cX12_mark 46 = .ok (.bipush (-2), 2) := by decide +kernel
theorem dX12_mark_48 : decode cX12_mark 48 = .ok (.invokevirtual 71, 3) := by decide +kernel
theorem dX12_mark_51 : decode cX12_mark 51 = .ok (.ireturn, 1) := by decide +kernel
theorem dX12_mark_52 : decode cX12_mark 52 = .ok (.aload_n 0, 1) := by decide +kernel
theorem dX12_mark_53 : decode cX12_mark 53 = .ok (.getfield 7, 3) := by decide +kernel
theorem dX12_mark_56 : decode cX12_mark 56 = .ok (.iconst 4, 1) := by decide +kernel
theorem dX12_mark_57 : decode cX12_mark 57 = .ok (.iaload, 1) := by decide +kernel
theorem dX12_mark_58 : decode cX12_mark 58 = .ok (.bipush 6, 2) := by decide +kernel
theorem dX12_mark_60 : decode cX12_mark 60 = .ok (.if_icmp .ne 8, 3) := by decide +kernel
theorem dX12_mark_63 : decode cX12_mark 63 = .ok (.aload_n 0, 1) := by decide +kernel
theorem dX12_mark_64 : decode cX12_mark 64 = .ok (.invokevirtual 75, 3) := by decide +kernel
theorem dX12_mark_67 : decode cX12_mark 67 = .ok (.ireturn, 1) := by decide +kernel
theorem dX12_mark_68 : decode cX12_mark 68 = .ok (.aload_n 0, 1) := by decide +kernel
theorem dX12_mark_69 : decode cX12_mark 69 = .ok (.bipush 104, 2) := by decide +kernel
theorem dX12_mark_71 : decode cX12_mark 71 = .ok (.iconst 4, 1) := by decide +kernel
theorem dX12_mark_72 : decode cX12_mark 72 = .ok (.aload_n 0, 1) := by decide +kernel
theorem dX12_mark_73 : decode cX12_mark 73 = .ok (.getfield 7, 3) := by decide +kernel
theorem dX12_mark_76 : decode cX12_mark 76 = .ok (.iconst 4, 1) := by decide +kernel
theorem dX12_mark_77 : decode cX12_mark 77 = .ok (.iaload, 1) := by decide +kernel
theorem dX12_mark_78 : decode cX12_mark 78 = .ok (.imul, 1) := by decide +kernel
theorem dX12_mark_79 : decode cX12_mark 79 = .ok (.iadd, 1) := by decide +kernel
theorem dX12_mark_80 : decode cX12_mark 80 = .ok (.iload_n 1, 1) := by decide +kernel
theorem dX12_mark_81 : decode cX12_mark 81 = .ok (.iload_n 2, 1) := by decide +kernel
theorem dX12_mark_82 : decode cX12_mark 82 = .ok (.iload_n 3, 1) := by decide +kernel
theorem dX12_mark_83 : decode cX12_mark 83 = .ok (.iload 4, 2) := by decide +kernel
theorem dX12_mark_85 : decode cX12_mark 85 = .ok (.invokevirtual 170, 3) := by decide +kernel
theorem dX12_mark_88 : decode cX12_mark 88 = .ok (.aload_n 0, 1) := by decide +kernel
theorem dX12_mark_89 : decode cX12_mark 89 = .ok (.getfield 7, 3) := by decide +kernel
theorem dX12_mark_92 : decode cX12_mark 92 = .ok (.iconst 4, 1) := by decide +kernel
theorem dX12_mark_93 : decode cX12_mark 93 = .ok (.dup2, 1) := by decide +kernel
theorem dX12_mark_94 : decode cX12_mark 94 = .ok (.iaload, 1) := by decide +kernel
theorem dX12_mark_95 : decode cX12_mark 95 = .ok (.iconst 1, 1) := by decide +kernel
theorem dX12_mark_96 : decode cX12_mark 96 = .ok (.iadd, 1) := by decide +kernel
theorem dX12_mark_97 : decode cX12_mark 97 = .ok (.iastore, 1) := by decide +kernel
theorem dX12_mark_98 : decode cX12_mark 98 = .ok (.aload_n 0, 1) := by decide +kernel
theorem dX12_mark_99 : decode cX12_mark 99 = .ok (.getfield 7, 3) := by decide +kernel
theorem dX12_mark_102 : decode cX12_mark 102 = .ok (.iconst 4, 1) := by decide +kernel
theorem dX12_mark_103 : decode cX12_mark 103 = .ok (.iaload, 1) := by decide +kernel
theorem dX12_mark_104 : decode cX12_mark 104 = .ok (.ireturn, 1) := by decide +kernel
set_option maxRecDepth 20000 in
theorem ggX12_forget_X12_in : GoodIn wsX12_forget wsX12_in := goodIn_r _ [6] (by decide +kernel) (by decide +kernel)
set_option maxRecDepth 20000 in
theorem gX12_forget_X12_in : GoodIn wsX12_forget (va_wsS RX12 55 yX12_in wsX12_in) := goodIn_app (goodIn_of _ (by decide +kernel)) ggX12_forget_X12_in
set_option maxRecDepth 20000 in
theorem ggX12_forget_X12_bad : GoodIn wsX12_forget wsX12_bad := goodIn_r _ [10, 11, 12, 13, 14, 15, 16, 17, 18, 19, 20, 21, 22, 23, 24, 25, 26, 27, 28, 29, 30] (by decide +kernel) (by decide +kernel)
set_option maxRecDepth 20000 in
theorem gX12_forget_X12_bad : GoodIn wsX12_forget (wsV RX12 71 RX12 yX12_bad wsX12_bad) := goodIn_app (goodIn_of _ (by decide +kernel)) ggX12_forget_X12_bad
theorem dX12_forget_0 : decode cX12_forget 0 = .ok (.iload_n 1, 1) := by decide +kernel
theorem dX12_forget_1 : decode cX12_forget 1 = .ok (.i2l, 1) := by decide +kernel
theorem dX12_forget_2 : decode cX12_forget 2 = .ok (.lconst 0, 1) := by decide +kernel
theorem dX12_forget_3 : decode cX12_forget 3 = .ok (.ldc2_w 174, 3) := by decide +kernel
theorem dX12_forget_6 : decode cX12_forget 6 = .ok (.invokestatic 55, 3) := by decide +kernel
theorem dX12_forget_9 : decode cX12_forget 9 = .ok (.ifCond .ne 10, 3) := by decide +kernel
theorem dX12_forget_12 : decode cX12_forget 12 = .ok (.aload_n 0, 1) := by decide +kernel
theorem dX12_forget_13 : decode cX12_forget 13 = .ok (.bipush (-2), 2) := by decide +kernel
theorem dX12_forget_15 : decode cX12_forget 15 = .ok (.invokevirtual 71, 3) := by decide +kernel
theorem dX12_forget_18 : decode cX12_forget 18 = .ok (.ireturn, 1) := by decide +kernel
theorem dX12_forget_19 : decode cX12_forget 19 = .ok (.aload_n 0, 1) := by decide +kernel
theorem dX12_forget_20 : decode cX12_forget 20 = .ok (.getfield 7, 3) := by decide +kernel
theorem dX12_forget_23 : decode cX12_forget 23 = .ok (.iconst 2, 1) := by decide +kernel
theorem dX12_forget_24 : decode cX12_forget 24 = .ok (.iload_n 1, 1) := by decide +kernel
theorem dX12_forget_25 : decode cX12_forget 25 = .ok (.iadd, 1) := by decide +kernel
theorem dX12_forget_26 : decode cX12_forget 26 = .ok (.iaload, 1) := by decide +kernel
theorem dX12_forget_27 : decode cX12_forget 27 = .ok (.istore_n 2, 1) := by decide +kernel
theorem dX12_forget_28 : decode cX12_forget 28 = .ok (.aload_n 0, 1) := by decide +kernel
theorem dX12_forget_29 : decode cX12_forget 29 = .ok (.getfield 7, 3) := by decide +kernel
theorem dX12_forget_32 : decode cX12_forget 32 = .ok (.iconst 2, 1) := by decide +kernel
theorem dX12_forget_33 : decode cX12_forget 33 = .ok (.iload_n 1, 1) := by decide +kernel
theorem dX12_forget_34 : decode cX12_forget 34 = .ok (.iadd, 1) := by decide +kernel
theorem dX12_forget_35 : decode cX12_forget 35 = .ok (.iconst 0, 1) := by decide +kernel
theorem dX12_forget_36 : decode cX12_forget 36 = .ok (.iastore, 1) := by decide +kernel
theorem dX12_forget_37 : decode cX12_forget 37 = .ok (.iload_n 2, 1) := by decide +kernel
theorem dX12_forget_38 : decode cX12_forget 38 = .ok (.ireturn, 1) := by decide +kernel
set_option maxRecDepth 20000 in
theorem ggX12_kindsBy_X12_weighsAs : GoodIn wsX12_kindsBy wsX12_weighsAs := goodIn_r _ [5] (by decide +kernel) (by decide +kernel)
set_option maxRecDepth 20000 in
theorem gX12_kindsBy_X12_weighsAs : GoodIn wsX12_kindsBy (va_wsS RX12 88 yX12_weighsAs wsX12_weighsAs) := goodIn_app (goodIn_of _ (by decide +kernel)) ggX12_kindsBy_X12_weighsAs
set_option maxRecDepth 20000 in
theorem ggX12_kindsBy_X12_letsAs : GoodIn wsX12_kindsBy wsX12_letsAs := goodIn_r _ [8] (by decide +kernel) (by decide +kernel)
set_option maxRecDepth 20000 in
theorem gX12_kindsBy_X12_letsAs : GoodIn wsX12_kindsBy (va_wsS RX12 92 yX12_letsAs wsX12_letsAs) := goodIn_app (goodIn_of _ (by decide +kernel)) ggX12_kindsBy_X12_letsAs
theorem dX12_kindsBy_0 : decode cX12_kindsBy 0 = .ok (.iconst 0, 1) := by decide +kernel
theorem dX12_kindsBy_1 : decode cX12_kindsBy 1 = .ok (.istore 5, 2) := by decide +kernel
theorem dX12_kindsBy_3 : decode cX12_kindsBy 3 = .ok (.iconst 0, 1) := by decide +kernel
theorem dX12_kindsBy_4 : decode cX12_kindsBy 4 = .ok (.istore 6, 2) := by decide +kernel
theorem dX12_kindsBy_6 : decode cX12_kindsBy 6 = .ok (.iload 6, 2) := by decide +kernel
theorem dX12_kindsBy_8 : decode cX12_kindsBy 8 = .ok (.bipush 6, 2) := by decide +kernel
theorem dX12_kindsBy_10 : decode cX12_kindsBy 10 = .ok (.if_icmp .ge 146, 3) := by decide +kernel
theorem dX12_kindsBy_13 : decode cX12_kindsBy 13 = .ok (.iconst 1, 1) := by decide +kernel
theorem dX12_kindsBy_14 : decode cX12_kindsBy 14 = .ok (.istore 7, 2) := by decide +kernel
theorem dX12_kindsBy_16 : decode cX12_kindsBy 16 = .ok (.iconst 0, 1) := by decide +kernel
theorem dX12_kindsBy_17 : decode cX12_kindsBy 17 = .ok (.istore 8, 2) := by decide +kernel
theorem dX12_kindsBy_19 : decode cX12_kindsBy 19 = .ok (.iload 8, 2) := by decide +kernel
theorem dX12_kindsBy_21 : decode cX12_kindsBy 21 = .ok (.iload_n 3, 1) := by decide +kernel
theorem dX12_kindsBy_22 : decode cX12_kindsBy 22 = .ok (.if_icmp .ge 110, 3) := by decide +kernel
theorem dX12_kindsBy_25 : decode cX12_kindsBy 25 = .ok (.iload_n 2, 1) := by decide +kernel
theorem dX12_kindsBy_26 : decode cX12_kindsBy 26 = .ok (.iconst 4, 1) := by decide +kernel
theorem dX12_kindsBy_27 : decode cX12_kindsBy 27 = .ok (.iload 8, 2) := by decide +kernel
theorem dX12_kindsBy_29 : decode cX12_kindsBy 29 = .ok (.imul, 1) := by decide +kernel
theorem dX12_kindsBy_30 : decode cX12_kindsBy 30 = .ok (.iadd, 1) := by decide +kernel
theorem dX12_kindsBy_31 : decode cX12_kindsBy 31 = .ok (.istore 9, 2) := by decide +kernel
theorem dX12_kindsBy_33 : decode cX12_kindsBy 33 = .ok (.iload 4, 2) := by decide +kernel
theorem dX12_kindsBy_35 : decode cX12_kindsBy 35 = .ok (.ifCond .eq 29, 3) := by decide +kernel
theorem dX12_kindsBy_38 : decode cX12_kindsBy 38 = .ok (.iload 6, 2) := by decide +kernel
theorem dX12_kindsBy_40 : decode cX12_kindsBy 40 = .ok (.aload_n 0, 1) := by decide +kernel
theorem dX12_kindsBy_41 : decode cX12_kindsBy 41 = .ok (.getfield 7, 3) := by decide +kernel
theorem dX12_kindsBy_44 : decode cX12_kindsBy 44 = .ok (.iload 9, 2) := by decide +kernel
theorem dX12_kindsBy_46 : decode cX12_kindsBy 46 = .ok (.iconst 1, 1) := by decide +kernel
theorem dX12_kindsBy_47 : decode cX12_kindsBy 47 = .ok (.iadd, 1) := by decide +kernel
theorem dX12_kindsBy_48 : decode cX12_kindsBy 48 = .ok (.iaload, 1) := by decide +kernel
theorem dX12_kindsBy_49 : decode cX12_kindsBy 49 = .ok (.aload_n 0, 1) := by decide +kernel
theorem dX12_kindsBy_50 : decode cX12_kindsBy 50 = .ok (.getfield 7, 3) := by decide +kernel
theorem dX12_kindsBy_53 : decode cX12_kindsBy 53 = .ok (.iload 9, 2) := by decide +kernel
theorem dX12_kindsBy_55 : decode cX12_kindsBy 55 = .ok (.iconst 2, 1) := by decide +kernel
theorem dX12_kindsBy_56 : decode cX12_kindsBy 56 = .ok (.iadd, 1) := by decide +kernel
theorem dX12_kindsBy_57 : decode cX12_kindsBy 57 = .ok (.iaload, 1) := by decide +kernel
theorem dX12_kindsBy_58 : decode cX12_kindsBy 58 = .ok (.invokestatic 88, 3) := by decide +kernel
theorem dX12_kindsBy_61 : decode cX12_kindsBy 61 = .ok (.goto 26, 3) := by decide +kernel
theorem dX12_kindsBy_64 : decode cX12_kindsBy 64 = .ok (.iload 6, 2) := by decide +kernel
theorem dX12_kindsBy_66 : decode cX12_kindsBy 66 = .ok (.aload_n 0, 1) := by decide +kernel
theorem dX12_kindsBy_67 : decode cX12_kindsBy 67 = .ok (.getfield 7, 3) := by decide +kernel
theorem dX12_kindsBy_70 : decode cX12_kindsBy 70 = .ok (.iload 9, 2) := by decide +kernel
theorem dX12_kindsBy_72 : decode cX12_kindsBy 72 = .ok (.iconst 1, 1) := by decide +kernel
theorem dX12_kindsBy_73 : decode cX12_kindsBy 73 = .ok (.iadd, 1) := by decide +kernel
theorem dX12_kindsBy_74 : decode cX12_kindsBy 74 = .ok (.iaload, 1) := by decide +kernel
theorem dX12_kindsBy_75 : decode cX12_kindsBy 75 = .ok (.aload_n 0, 1) := by decide +kernel
theorem dX12_kindsBy_76 : decode cX12_kindsBy 76 = .ok (.getfield 7, 3) := by decide +kernel
theorem dX12_kindsBy_79 : decode cX12_kindsBy 79 = .ok (.iload 9, 2) := by decide +kernel
theorem dX12_kindsBy_81 : decode cX12_kindsBy 81 = .ok (.iconst 2, 1) := by decide +kernel
theorem dX12_kindsBy_82 : decode cX12_kindsBy 82 = .ok (.iadd, 1) := by decide +kernel
theorem dX12_kindsBy_83 : decode cX12_kindsBy 83 = .ok (.iaload, 1) := by decide +kernel
theorem dX12_kindsBy_84 : decode cX12_kindsBy 84 = .ok (.invokestatic 92, 3) := by decide +kernel
theorem dX12_kindsBy_87 : decode cX12_kindsBy 87 = .ok (.istore 10, 2) := by decide +kernel
theorem dX12_kindsBy_89 : decode cX12_kindsBy 89 = .ok (.iload 7, 2) := by decide +kernel
theorem dX12_kindsBy_91 : decode cX12_kindsBy 91 = .ok (.ifCond .eq 32, 3) := by decide +kernel
theorem dX12_kindsBy_94 : decode cX12_kindsBy 94 = .ok (.aload_n 0, 1) := by decide +kernel
theorem dX12_kindsBy_95 : decode cX12_kindsBy 95 = .ok (.getfield 7, 3) := by decide +kernel
theorem dX12_kindsBy_98 : decode cX12_kindsBy 98 = .ok (.iload 9, 2) := by decide +kernel
theorem dX12_kindsBy_100 : decode cX12_kindsBy 100 = .ok (.iaload, 1) := by decide +kernel
theorem dX12_kindsBy_101 : decode cX12_kindsBy 101 = .ok (.iload_n 1, 1) := by decide +kernel
theorem dX12_kindsBy_102 : decode cX12_kindsBy 102 = .ok (.if_icmp .ne 17, 3) := by decide +kernel
theorem dX12_kindsBy_105 : decode cX12_kindsBy 105 = .ok (.iload 10, 2) := by decide +kernel
theorem dX12_kindsBy_107 : decode cX12_kindsBy 107 = .ok (.aload_n 0, 1) := by decide +kernel
theorem dX12_kindsBy_108 : decode cX12_kindsBy 108 = .ok (.getfield 7, 3) := by decide +kernel
theorem dX12_kindsBy_111 : decode cX12_kindsBy 111 = .ok (.iload 9, 2) := by decide +kernel
theorem dX12_kindsBy_113 : decode cX12_kindsBy 113 = .ok (.iconst 3, 1) := by decide +kernel
theorem dX12_kindsBy_114 : decode cX12_kindsBy 114 = .ok (.iadd, 1) := by decide +kernel
theorem dX12_kindsBy_115 : decode cX12_kindsBy 115 = .ok (.iaload, 1) := by decide +kernel
theorem dX12_kindsBy_116 : decode cX12_kindsBy 116 = .ok (.if_icmp .ne 7, 3) := by decide +kernel
theorem dX12_kindsBy_119 : decode cX12_kindsBy 119 = .ok (.iconst 1, 1) := by decide +kernel
theorem dX12_kindsBy_120 : decode cX12_kindsBy 120 = .ok (.goto 4, 3) := by decide +kernel
theorem dX12_kindsBy_123 : decode cX12_kindsBy 123 = .ok (.iconst 0, 1) := by decide +kernel
theorem dX12_kindsBy_124 : decode cX12_kindsBy 124 = .ok (.istore 7, 2) := by decide +kernel
theorem dX12_kindsBy_126 : decode cX12_kindsBy 126 = .ok (.iinc 8 1, 3) := by decide +kernel
theorem dX12_kindsBy_129 : decode cX12_kindsBy 129 = .ok (.goto (-110), 3) := by decide +kernel
theorem dX12_kindsBy_132 : decode cX12_kindsBy 132 = .ok (.iload 5, 2) := by decide +kernel
theorem dX12_kindsBy_134 : decode cX12_kindsBy 134 = .ok (.iload 7, 2) := by decide +kernel
theorem dX12_kindsBy_136 : decode cX12_kindsBy 136 = .ok (.ifCond .eq 10, 3) := by decide +kernel
theorem dX12_kindsBy_139 : decode cX12_kindsBy 139 = .ok (.iconst 1, 1) := by decide +kernel
theorem dX12_kindsBy_140 : decode cX12_kindsBy 140 = .ok (.iload 6, 2) := by decide +kernel
theorem dX12_kindsBy_142 : decode cX12_kindsBy 142 = .ok (.ishl, 1) := by decide +kernel
theorem dX12_kindsBy_143 : decode cX12_kindsBy 143 = .ok (.goto 4, 3) := by decide +kernel
theorem dX12_kindsBy_146 : decode cX12_kindsBy 146 = .ok (.iconst 0, 1) := by decide +kernel
theorem dX12_kindsBy_147 : decode cX12_kindsBy 147 = .ok (.ior, 1) := by decide +kernel
theorem dX12_kindsBy_148 : decode cX12_kindsBy 148 = .ok (.istore 5, 2) := by decide +kernel
theorem dX12_kindsBy_150 : decode cX12_kindsBy 150 = .ok (.iinc 6 1, 3) := by decide +kernel
theorem dX12_kindsBy_153 : decode cX12_kindsBy 153 = .ok (.goto (-147), 3) := by decide +kernel
theorem dX12_kindsBy_156 : decode cX12_kindsBy 156 = .ok (.iload 5, 2) := by decide +kernel
theorem dX12_kindsBy_158 : decode cX12_kindsBy 158 = .ok (.ireturn, 1) := by decide +kernel
set_option maxRecDepth 20000 in
theorem ggX12_kindsOfWrong_X12_kindsBy : GoodIn wsX12_kindsOfWrong wsX12_kindsBy := goodIn_r _ [6, 1, 7, 8, 5, 9, 10, 11, 12, 13, 14, 15, 16, 17, 18, 19, 20, 21, 22, 23, 24, 25, 26, 27, 28, 29, 30, 31] (by decide +kernel) (by decide +kernel)
set_option maxRecDepth 20000 in
theorem gX12_kindsOfWrong_X12_kindsBy : GoodIn wsX12_kindsOfWrong (wsV RX12 179 RX12 yX12_kindsBy wsX12_kindsBy) := goodIn_app (goodIn_of _ (by decide +kernel)) ggX12_kindsOfWrong_X12_kindsBy
theorem dX12_kindsOfWrong_0 : decode cX12_kindsOfWrong 0 = .ok (.aload_n 0, 1) := by decide +kernel
theorem dX12_kindsOfWrong_1 : decode cX12_kindsOfWrong 1 = .ok (.iload_n 1, 1) := by decide +kernel
theorem dX12_kindsOfWrong_2 : decode cX12_kindsOfWrong 2 = .ok (.bipush 80, 2) := by decide +kernel
theorem dX12_kindsOfWrong_4 : decode cX12_kindsOfWrong 4 = .ok (.aload_n 0, 1) := by decide +kernel
theorem dX12_kindsOfWrong_5 : decode cX12_kindsOfWrong 5 = .ok (.getfield 7, 3) := by decide +kernel
theorem dX12_kindsOfWrong_8 : decode cX12_kindsOfWrong 8 = .ok (.iconst 3, 1) := by decide +kernel
theorem dX12_kindsOfWrong_9 : decode cX12_kindsOfWrong 9 = .ok (.iaload, 1) := by decide +kernel
theorem dX12_kindsOfWrong_10 : decode cX12_kindsOfWrong 10 = .ok (.iconst 1, 1) := by decide +kernel
theorem dX12_kindsOfWrong_11 : decode cX12_kindsOfWrong 11 = .ok (.invokevirtual 179, 3) := by decide +kernel
theorem dX12_kindsOfWrong_14 : decode cX12_kindsOfWrong 14 = .ok (.ireturn, 1) := by decide +kernel
set_option maxRecDepth 20000 in
theorem ggX12_kindsOfOne_X12_kindsBy : GoodIn wsX12_kindsOfOne wsX12_kindsBy := goodIn_r _ [6, 1, 7, 8, 5, 9, 10, 11, 12, 13, 14, 15, 16, 17, 18, 19, 20, 21, 22, 23, 24, 25, 26, 27, 28, 29, 30, 31] (by decide +kernel) (by decide +kernel)
set_option maxRecDepth 20000 in
theorem gX12_kindsOfOne_X12_kindsBy : GoodIn wsX12_kindsOfOne (wsV RX12 179 RX12 yX12_kindsBy wsX12_kindsBy) := goodIn_app (goodIn_of _ (by decide +kernel)) ggX12_kindsOfOne_X12_kindsBy
theorem dX12_kindsOfOne_0 : decode cX12_kindsOfOne 0 = .ok (.aload_n 0, 1) := by decide +kernel
theorem dX12_kindsOfOne_1 : decode cX12_kindsOfOne 1 = .ok (.iload_n 1, 1) := by decide +kernel
theorem dX12_kindsOfOne_2 : decode cX12_kindsOfOne 2 = .ok (.bipush 104, 2) := by decide +kernel
theorem dX12_kindsOfOne_4 : decode cX12_kindsOfOne 4 = .ok (.aload_n 0, 1) := by decide +kernel
theorem dX12_kindsOfOne_5 : decode cX12_kindsOfOne 5 = .ok (.getfield 7, 3) := by decide +kernel
theorem dX12_kindsOfOne_8 : decode cX12_kindsOfOne 8 = .ok (.iconst 4, 1) := by decide +kernel
theorem dX12_kindsOfOne_9 : decode cX12_kindsOfOne 9 = .ok (.iaload, 1) := by decide +kernel
theorem dX12_kindsOfOne_10 : decode cX12_kindsOfOne 10 = .ok (.iconst 0, 1) := by decide +kernel
theorem dX12_kindsOfOne_11 : decode cX12_kindsOfOne 11 = .ok (.invokevirtual 179, 3) := by decide +kernel
theorem dX12_kindsOfOne_14 : decode cX12_kindsOfOne 14 = .ok (.ireturn, 1) := by decide +kernel
set_option maxRecDepth 20000 in
theorem ggX12_mostAlike_X12_has : GoodIn wsX12_mostAlike wsX12_has := goodIn_r _ [5] (by decide +kernel) (by decide +kernel)
set_option maxRecDepth 20000 in
theorem gX12_mostAlike_X12_has : GoodIn wsX12_mostAlike (va_wsS RX12 95 yX12_has wsX12_has) := goodIn_app (goodIn_of _ (by decide +kernel)) ggX12_mostAlike_X12_has
theorem dX12_mostAlike_0 : decode cX12_mostAlike 0 = .ok (.iconst 0, 1) := by decide +kernel
theorem dX12_mostAlike_1 : decode cX12_mostAlike 1 = .ok (.istore_n 2, 1) := by decide +kernel
theorem dX12_mostAlike_2 : decode cX12_mostAlike 2 = .ok (.iconst 0, 1) := by decide +kernel
theorem dX12_mostAlike_3 : decode cX12_mostAlike 3 = .ok (.istore_n 3, 1) := by decide +kernel
theorem dX12_mostAlike_4 : decode cX12_mostAlike 4 = .ok (.iload_n 3, 1) := by decide +kernel
theorem dX12_mostAlike_5 : decode cX12_mostAlike 5 = .ok (.bipush 6, 2) := by decide +kernel
theorem dX12_mostAlike_7 : decode cX12_mostAlike 7 = .ok (.if_icmp .ge 84, 3) := by decide +kernel
theorem dX12_mostAlike_10 : decode cX12_mostAlike 10 = .ok (.iconst 0, 1) := by decide +kernel
theorem dX12_mostAlike_11 : decode cX12_mostAlike 11 = .ok (.istore 4, 2) := by decide +kernel
theorem dX12_mostAlike_13 : decode cX12_mostAlike 13 = .ok (.iconst 0, 1) := by decide +kernel
theorem dX12_mostAlike_14 : decode cX12_mostAlike 14 = .ok (.istore 5, 2) := by decide +kernel
theorem dX12_mostAlike_16 : decode cX12_mostAlike 16 = .ok (.iload 5, 2) := by decide +kernel
theorem dX12_mostAlike_18 : decode cX12_mostAlike 18 = .ok (.bipush 6, 2) := by decide +kernel
theorem dX12_mostAlike_20 : decode cX12_mostAlike 20 = .ok (.if_icmp .ge 52, 3) := by decide +kernel
theorem dX12_mostAlike_23 : decode cX12_mostAlike 23 = .ok (.iload_n 1, 1) := by decide +kernel
theorem dX12_mostAlike_24 : decode cX12_mostAlike 24 = .ok (.iload_n 3, 1) := by decide +kernel
theorem dX12_mostAlike_25 : decode cX12_mostAlike 25 = .ok (.invokestatic 95, 3) := by decide +kernel
theorem dX12_mostAlike_28 : decode cX12_mostAlike 28 = .ok (.ifCond .eq 44, 3) := by decide +kernel
theorem dX12_mostAlike_31 : decode cX12_mostAlike 31 = .ok (.iload 4, 2) := by decide +kernel
theorem dX12_mostAlike_33 : decode cX12_mostAlike 33 = .ok (.iload_n 1, 1) := by decide +kernel
theorem dX12_mostAlike_34 : decode cX12_mostAlike 34 = .ok (.iload 5, 2) := by decide +kernel
theorem dX12_mostAlike_36 : decode cX12_mostAlike 36 = .ok (.invokestatic 95, 3) := by decide +kernel
theorem dX12_mostAlike_39 : decode cX12_mostAlike 39 = .ok (.ifCond .eq 23, 3) := by decide +kernel
theorem dX12_mostAlike_42 : decode cX12_mostAlike 42 = .ok (.aload_n 0, 1) := by decide +kernel
theorem dX12_mostAlike_43 : decode cX12_mostAlike 43 = .ok (.getfield 39, 3) := by decide +kernel
theorem dX12_mostAlike_46 : decode cX12_mostAlike 46 = .ok (.iload_n 3, 1) := by decide +kernel
theorem dX12_mostAlike_47 : decode cX12_mostAlike 47 = .ok (.iaload, 1) := by decide +kernel
theorem dX12_mostAlike_48 : decode cX12_mostAlike 48 = .ok (.aload_n 0, 1) := by decide +kernel
theorem dX12_mostAlike_49 : decode cX12_mostAlike 49 = .ok (.getfield 39, 3) := by decide +kernel
theorem dX12_mostAlike_52 : decode cX12_mostAlike 52 = .ok (.iload 5, 2) := by decide +kernel
theorem dX12_mostAlike_54 : decode cX12_mostAlike 54 = .ok (.iaload, 1) := by decide +kernel
theorem dX12_mostAlike_55 : decode cX12_mostAlike 55 = .ok (.if_icmp .ne 7, 3) := by decide +kernel
theorem dX12_mostAlike_58 : decode cX12_mostAlike 58 = .ok (.iconst 1, 1) := by decide +kernel
theorem dX12_mostAlike_59 : decode cX12_mostAlike 59 = .ok (.goto 4, 3) := by decide +kernel
theorem dX12_mostAlike_62 : decode cX12_mostAlike 62 = .ok (.iconst 0, 1) := by decide +kernel
theorem dX12_mostAlike_63 : decode cX12_mostAlike 63 = .ok (.iadd, 1) := by decide +kernel
theorem dX12_mostAlike_64 : decode cX12_mostAlike 64 = .ok (.istore 4, 2) := by decide +kernel
theorem dX12_mostAlike_66 : decode cX12_mostAlike 66 = .ok (.iinc 5 1, 3) := by decide +kernel
theorem dX12_mostAlike_69 : decode cX12_mostAlike 69 = .ok (.goto (-53), 3) := by decide +kernel
theorem dX12_mostAlike_72 : decode cX12_mostAlike 72 = .ok (.iload 4, 2) := by decide +kernel
theorem dX12_mostAlike_74 : decode cX12_mostAlike 74 = .ok (.iload_n 2, 1) := by decide +kernel
theorem dX12_mostAlike_75 : decode cX12_mostAlike 75 = .ok (.if_icmp .le 8, 3) := by decide +kernel
theorem dX12_mostAlike_78 : decode cX12_mostAlike 78 = .ok (.iload 4, 2) := by decide +kernel
theorem dX12_mostAlike_80 : decode cX12_mostAlike 80 = .ok (.goto 4, 3) := by decide +kernel
theorem dX12_mostAlike_83 : decode cX12_mostAlike 83 = .ok (.iload_n 2, 1) := by decide +kernel
theorem dX12_mostAlike_84 : decode cX12_mostAlike 84 = .ok (.istore_n 2, 1) := by decide +kernel
theorem dX12_mostAlike_85 : decode cX12_mostAlike 85 = .ok (.iinc 3 1, 3) := by decide +kernel
theorem dX12_mostAlike_88 : decode cX12_mostAlike 88 = .ok (.goto (-84), 3) := by decide +kernel
theorem dX12_mostAlike_91 : decode cX12_mostAlike 91 = .ok (.iload_n 2, 1) := by decide +kernel
theorem dX12_mostAlike_92 : decode cX12_mostAlike 92 = .ok (.ireturn, 1) := by decide +kernel
set_option maxRecDepth 20000 in
theorem ggX12_is_X12_isWrong : GoodIn wsX12_is wsX12_isWrong := goodIn_r _ [5, 6, 7, 8, 4, 9, 10, 11, 12, 13, 33, 34, 35, 36, 37, 38, 39, 40, 41, 42, 43, 44, 45, 46, 47, 48, 49, 50, 51] (by decide +kernel) (by decide +kernel)
set_option maxRecDepth 20000 in
theorem gX12_is_X12_isWrong : GoodIn wsX12_is (wsV RX12 118 RX12 yX12_isWrong wsX12_isWrong) := goodIn_app (goodIn_of _ (by decide +kernel)) ggX12_is_X12_isWrong
set_option maxRecDepth 20000 in
theorem ggX12_is_X12_kindsOfWrong : GoodIn wsX12_is wsX12_kindsOfWrong := goodIn_r _ [17, 10, 18, 19, 20, 4, 21, 22, 23, 24, 25, 26, 27, 33, 34, 35, 36, 37, 38, 39, 40, 41, 42, 43, 44, 45, 46, 47, 48, 49, 50, 51] (by decide +kernel) (by decide +kernel)
set_option maxRecDepth 20000 in
theorem gX12_is_X12_kindsOfWrong : GoodIn wsX12_is (wsV RX12 183 RX12 yX12_kindsOfWrong wsX12_kindsOfWrong) := goodIn_app (goodIn_of _ (by decide +kernel)) ggX12_is_X12_kindsOfWrong
set_option maxRecDepth 20000 in
theorem ggX12_is_X12_bad : GoodIn wsX12_is wsX12_bad := goodIn_r _ [31, 32, 33, 34, 35, 36, 37, 38, 39, 40, 41, 42, 43, 44, 45, 46, 47, 48, 49, 50, 51] (by decide +kernel) (by decide +kernel)
set_option maxRecDepth 20000 in
theorem gX12_is_X12_bad : GoodIn wsX12_is (wsV RX12 71 RX12 yX12_bad wsX12_bad) := goodIn_app (goodIn_of _ (by decide +kernel)) ggX12_is_X12_bad
theorem dX12_is_0 : decode cX12_is 0 = .ok (.aload_n 0, 1) := by decide +kernel
theorem dX12_is_1 : decode cX12_is 1 = .ok (.iload_n 1, 1) := by decide +kernel
theorem dX12_is_2 : decode cX12_is 2 = .ok (.invokevirtual 118, 3) := by decide +kernel
theorem dX12_is_5 : decode cX12_is 5 = .ok (.ifCond .eq 11, 3) := by decide +kernel
theorem dX12_is_8 : decode cX12_is 8 = .ok (.aload_n 0, 1) := by decide +kernel
theorem dX12_is_9 : decode cX12_is 9 = .ok (.iload_n 1, 1) := by decide +kernel
theorem dX12_is_10 : decode cX12_is 10 = .ok (.invokevirtual 183, 3) := by decide +kernel
theorem dX12_is_13 : decode cX12_is 13 = .ok (.goto 9, 3) := by decide +kernel
theorem dX12_is_16 : decode cX12_is 16 = .ok (.aload_n 0, 1) := by decide +kernel
theorem dX12_is_17 : decode cX12_is 17 = .ok (.bipush (-2), 2) := by decide +kernel
theorem dX12_is_19 : decode cX12_is 19 = .ok (.invokevirtual 71, 3) := by decide +kernel
theorem dX12_is_22 : decode cX12_is 22 = .ok (.ireturn, 1) := by decide +kernel
set_option maxRecDepth 20000 in
theorem ggX12_look_X12_isWrong : GoodIn wsX12_look wsX12_isWrong := goodIn_r _ [8, 9, 10, 11, 7, 12, 3, 13, 14, 15, 42, 43, 44, 45, 46, 47, 48, 49, 50, 51, 52, 53, 54, 55, 56, 57, 58, 59, 60] (by decide +kernel) (by decide +kernel)
set_option maxRecDepth 20000 in
theorem gX12_look_X12_isWrong : GoodIn wsX12_look (wsV RX12 118 RX12 yX12_isWrong wsX12_isWrong) := goodIn_app (goodIn_of _ (by decide +kernel)) ggX12_look_X12_isWrong
set_option maxRecDepth 20000 in
theorem ggX12_look_X12_bad : GoodIn wsX12_look wsX12_bad := goodIn_r _ [19, 20, 42, 43, 44, 45, 46, 47, 48, 49, 50, 51, 52, 53, 54, 55, 56, 57, 58, 59, 60] (by decide +kernel) (by decide +kernel)
set_option maxRecDepth 20000 in
theorem gX12_look_X12_bad : GoodIn wsX12_look (wsV RX12 71 RX12 yX12_bad wsX12_bad) := goodIn_app (goodIn_of _ (by decide +kernel)) ggX12_look_X12_bad
set_option maxRecDepth 20000 in
theorem ggX12_look_X12_kindsOfWrong : GoodIn wsX12_look wsX12_kindsOfWrong := goodIn_r _ [24, 3, 25, 26, 27, 7, 28, 29, 30, 31, 32, 33, 34, 42, 43, 44, 45, 46, 47, 48, 49, 50, 51, 52, 53, 54, 55, 56, 57, 58, 59, 60] (by decide +kernel) (by decide +kernel)
set_option maxRecDepth 20000 in
theorem gX12_look_X12_kindsOfWrong : GoodIn wsX12_look (wsV RX12 183 RX12 yX12_kindsOfWrong wsX12_kindsOfWrong) := goodIn_app (goodIn_of _ (by decide +kernel)) ggX12_look_X12_kindsOfWrong
set_option maxRecDepth 20000 in
theorem ggX12_look_X12_weighsAs : GoodIn wsX12_look wsX12_weighsAs := goodIn_r _ [31] (by decide +kernel) (by decide +kernel)
set_option maxRecDepth 20000 in
theorem gX12_look_X12_weighsAs : GoodIn wsX12_look (va_wsS RX12 88 yX12_weighsAs wsX12_weighsAs) := goodIn_app (goodIn_of _ (by decide +kernel)) ggX12_look_X12_weighsAs
set_option maxRecDepth 20000 in
theorem ggX12_look_X12_mostAlike : GoodIn wsX12_look wsX12_mostAlike := goodIn_r _ [38, 2, 39, 40, 7, 41, 42, 43, 44, 45, 46, 47, 48, 49, 50, 51, 52, 53, 54, 55, 56, 57, 58, 59, 60] (by decide +kernel) (by decide +kernel)
set_option maxRecDepth 20000 in
theorem gX12_look_X12_mostAlike : GoodIn wsX12_look (wsV RX12 186 RX12 yX12_mostAlike wsX12_mostAlike) := goodIn_app (goodIn_of _ (by decide +kernel)) ggX12_look_X12_mostAlike
theorem dX12_look_0 : decode cX12_look 0 = .ok (.aload_n 0, 1) := by decide +kernel
theorem dX12_look_1 : decode cX12_look 1 = .ok (.iload_n 1, 1) := by decide +kernel
theorem dX12_look_2 : decode cX12_look 2 = .ok (.invokevirtual 118, 3) := by decide +kernel
theorem dX12_look_5 : decode cX12_look 5 = .ok (.ifCond .ne 10, 3) := by decide +kernel
theorem dX12_look_8 : decode cX12_look 8 = .ok (.aload_n 0, 1) := by decide +kernel
theorem dX12_look_9 : decode cX12_look 9 = .ok (.bipush (-2), 2) := by decide +kernel
theorem dX12_look_11 : decode cX12_look 11 = .ok (.invokevirtual 71, 3) := by decide +kernel
theorem dX12_look_14 : decode cX12_look 14 = .ok (.ireturn, 1) := by decide +kernel
theorem dX12_look_15 : decode cX12_look 15 = .ok (.aload_n 0, 1) := by decide +kernel
theorem dX12_look_16 : decode cX12_look 16 = .ok (.iload_n 1, 1) := by decide +kernel
theorem dX12_look_17 : decode cX12_look 17 = .ok (.invokevirtual 183, 3) := by decide +kernel
theorem dX12_look_20 : decode cX12_look 20 = .ok (.istore_n 2, 1) := by decide +kernel
theorem dX12_look_21 : decode cX12_look 21 = .ok (.iconst (-1), 1) := by decide +kernel
theorem dX12_look_22 : decode cX12_look 22 = .ok (.istore_n 3, 1) := by decide +kernel
theorem dX12_look_23 : decode cX12_look 23 = .ok (.ldc 155, 2) := by decide +kernel
theorem dX12_look_25 : decode cX12_look 25 = .ok (.istore 4, 2) := by decide +kernel
theorem dX12_look_27 : decode cX12_look 27 = .ok (.iconst 0, 1) := by decide +kernel
theorem dX12_look_28 : decode cX12_look 28 = .ok (.istore 5, 2) := by decide +kernel
theorem dX12_look_30 : decode cX12_look 30 = .ok (.iload 5, 2) := by decide +kernel
theorem dX12_look_32 : decode cX12_look 32 = .ok (.bipush 30, 2) := by decide +kernel
theorem dX12_look_34 : decode cX12_look 34 = .ok (.if_icmp .gt 89, 3) := by decide +kernel
theorem dX12_look_37 : decode cX12_look 37 = .ok (.iload_n 2, 1) := by decide +kernel
theorem dX12_look_38 : decode cX12_look 38 = .ok (.ifCond .le 85, 3) := by decide +kernel
theorem dX12_look_41 : decode cX12_look 41 = .ok (.iconst 0, 1) := by decide +kernel
theorem dX12_look_42 : decode cX12_look 42 = .ok (.istore 6, 2) := by decide +kernel
theorem dX12_look_44 : decode cX12_look 44 = .ok (.iload 6, 2) := by decide +kernel
theorem dX12_look_46 : decode cX12_look 46 = .ok (.bipush 6, 2) := by decide +kernel
theorem dX12_look_48 : decode cX12_look 48 = .ok (.if_icmp .ge 32, 3) := by decide +kernel
theorem dX12_look_51 : decode cX12_look 51 = .ok (.aload_n 0, 1) := by decide +kernel
theorem dX12_look_52 : decode cX12_look 52 = .ok (.getfield 39, 3) := by decide +kernel
theorem dX12_look_55 : decode cX12_look 55 = .ok (.iload 6, 2) := by decide +kernel
theorem dX12_look_57 : decode cX12_look 57 = .ok (.iload 6, 2) := by decide +kernel
theorem dX12_look_59 : decode cX12_look 59 = .ok (.aload_n 0, 1) := by decide +kernel
theorem dX12_look_60 : decode cX12_look 60 = .ok (.getfield 7, 3) := by decide +kernel
theorem dX12_look_63 : decode cX12_look 63 = .ok (.bipush 52, 2) := by decide +kernel
theorem dX12_look_65 : decode cX12_look 65 = .ok (.iload_n 1, 1) := by decide +kernel
theorem dX12_look_66 : decode cX12_look 66 = .ok (.iadd, 1) := by decide +kernel
theorem dX12_look_67 : decode cX12_look 67 = .ok (.iaload, 1) := by decide +kernel
theorem dX12_look_68 : decode cX12_look 68 = .ok (.iload 5, 2) := by decide +kernel
theorem dX12_look_70 : decode cX12_look 70 = .ok (.invokestatic 88, 3) := by decide +kernel
theorem dX12_look_73 : decode cX12_look 73 = .ok (.iastore, 1) := by decide +kernel
theorem dX12_look_74 : decode cX12_look 74 = .ok (.iinc 6 1, 3) := by decide +kernel
theorem dX12_look_77 : decode cX12_look 77 = .ok (.goto (-33), 3) := by decide +kernel
theorem dX12_look_80 : decode cX12_look 80 = .ok (.aload_n 0, 1) := by decide +kernel
theorem dX12_look_81 : decode cX12_look 81 = .ok (.iload_n 2, 1) := by decide +kernel
theorem dX12_look_82 : decode cX12_look 82 = .ok (.invokevirtual 186, 3) := by decide +kernel
theorem dX12_look_85 : decode cX12_look 85 = .ok (.istore 6, 2) := by decide +kernel
theorem dX12_look_87 : decode cX12_look 87 = .ok (.iload 6, 2) := by decide +kernel
theorem dX12_look_89 : decode cX12_look 89 = .ok (.iload 4, 2) := by decide +kernel
theorem dX12_look_91 : decode cX12_look 91 = .ok (.if_icmp .ge 8, 3) := by decide +kernel
theorem dX12_look_94 : decode cX12_look 94 = .ok (.iload 5, 2) := by decide +kernel
theorem dX12_look_96 : decode cX12_look 96 = .ok (.goto 4, 3) := by decide +kernel
theorem dX12_look_99 : decode cX12_look 99 = .ok (.iload_n 3, 1) := by decide +kernel
theorem dX12_look_100 : decode cX12_look 100 = .ok (.istore_n 3, 1) := by decide +kernel
theorem dX12_look_101 : decode cX12_look 101 = .ok (.iload 6, 2) := by decide +kernel
theorem dX12_look_103 : decode cX12_look 103 = .ok (.iload 4, 2) := by decide +kernel
theorem dX12_look_105 : decode cX12_look 105 = .ok (.if_icmp .ge 8, 3) := by decide +kernel
theorem dX12_look_108 : decode cX12_look 108 = .ok (.iload 6, 2) := by decide +kernel
theorem dX12_look_110 : decode cX12_look 110 = .ok (.goto 5, 3) := by decide +kernel
theorem dX12_look_113 : decode cX12_look 113 = .ok (.iload 4, 2) := by decide +kernel
theorem dX12_look_115 : decode cX12_look 115 = .ok (.istore 4, 2) := by decide +kernel
theorem dX12_look_117 : decode cX12_look 117 = .ok (.iinc 5 1, 3) := by decide +kernel
theorem dX12_look_120 : decode cX12_look 120 = .ok (.goto (-90), 3) := by decide +kernel
theorem dX12_look_123 : decode cX12_look 123 = .ok (.iload_n 3, 1) := by decide +kernel
theorem dX12_look_124 : decode cX12_look 124 = .ok (.ireturn, 1) := by decide +kernel
set_option maxRecDepth 20000 in
theorem ggX12_kinds_X12_isOne : GoodIn wsX12_kinds wsX12_isOne := goodIn_r _ [5, 6, 7, 8, 4, 9, 29, 30, 31, 32, 33, 34, 35, 36, 37, 38, 39, 40, 41, 42, 43, 44, 45, 46, 47] (by decide +kernel) (by decide +kernel)
set_option maxRecDepth 20000 in
theorem gX12_kinds_X12_isOne : GoodIn wsX12_kinds (wsV RX12 78 RX12 yX12_isOne wsX12_isOne) := goodIn_app (goodIn_of _ (by decide +kernel)) ggX12_kinds_X12_isOne
set_option maxRecDepth 20000 in
theorem ggX12_kinds_X12_kindsOfOne : GoodIn wsX12_kinds wsX12_kindsOfOne := goodIn_r _ [13, 6, 14, 15, 16, 4, 17, 18, 19, 20, 21, 22, 23, 29, 30, 31, 32, 33, 34, 35, 36, 37, 38, 39, 40, 41, 42, 43, 44, 45, 46, 47] (by decide +kernel) (by decide +kernel)
set_option maxRecDepth 20000 in
theorem gX12_kinds_X12_kindsOfOne : GoodIn wsX12_kinds (wsV RX12 189 RX12 yX12_kindsOfOne wsX12_kindsOfOne) := goodIn_app (goodIn_of _ (by decide +kernel)) ggX12_kinds_X12_kindsOfOne
set_option maxRecDepth 20000 in
theorem ggX12_kinds_X12_bad : GoodIn wsX12_kinds wsX12_bad := goodIn_r _ [27, 28, 29, 30, 31, 32, 33, 34, 35, 36, 37, 38, 39, 40, 41, 42, 43, 44, 45, 46, 47] (by decide +kernel) (by decide +kernel)
set_option maxRecDepth 20000 in
theorem gX12_kinds_X12_bad : GoodIn wsX12_kinds (wsV RX12 71 RX12 yX12_bad wsX12_bad) := goodIn_app (goodIn_of _ (by decide +kernel)) ggX12_kinds_X12_bad
theorem dX12_kinds_0 : decode cX12_kinds 0 = .ok (.aload_n 0, 1) := by decide +kernel
theorem dX12_kinds_1 : decode cX12_kinds 1 = .ok (.iload_n 1, 1) := by decide +kernel
theorem dX12_kinds_2 : decode cX12_kinds 2 = .ok (.invokevirtual 78, 3) := by decide +kernel
theorem dX12_kinds_5 : decode cX12_kinds 5 = .ok (.ifCond .eq 11, 3) := by decide +kernel
theorem dX12_kinds_8 : decode cX12_kinds 8 = .ok (.aload_n 0, 1) := by decide +kernel
theorem dX12_kinds_9 : decode cX12_kinds 9 = .ok (.iload_n 1, 1) := by decide +kernel
theorem dX12_kinds_10 : decode cX12_kinds 10 = .ok (.invokevirtual 189, 3) := by decide +kernel
theorem dX12_kinds_13 : decode cX12_kinds 13 = .ok (.goto 9, 3) := by decide +kernel
theorem dX12_kinds_16 : decode cX12_kinds 16 = .ok (.aload_n 0, 1) := by decide +kernel
theorem dX12_kinds_17 : decode cX12_kinds 17 = .ok (.bipush (-2), 2) := by decide +kernel
theorem dX12_kinds_19 : decode cX12_kinds 19 = .ok (.invokevirtual 71, 3) := by decide +kernel
theorem dX12_kinds_22 : decode cX12_kinds 22 = .ok (.ireturn, 1) := by decide +kernel
set_option maxRecDepth 20000 in
theorem ggX12_ask_X12_isOne : GoodIn wsX12_ask wsX12_isOne := goodIn_r _ [7, 8, 9, 10, 6, 11, 38, 39, 40, 41, 42, 43, 44, 45, 46, 47, 48, 49, 50, 51, 52, 53, 54, 55, 56] (by decide +kernel) (by decide +kernel)
set_option maxRecDepth 20000 in
theorem gX12_ask_X12_isOne : GoodIn wsX12_ask (wsV RX12 78 RX12 yX12_isOne wsX12_isOne) := goodIn_app (goodIn_of _ (by decide +kernel)) ggX12_ask_X12_isOne
set_option maxRecDepth 20000 in
theorem ggX12_ask_X12_bad : GoodIn wsX12_ask wsX12_bad := goodIn_r _ [15, 16, 38, 39, 40, 41, 42, 43, 44, 45, 46, 47, 48, 49, 50, 51, 52, 53, 54, 55, 56] (by decide +kernel) (by decide +kernel)
set_option maxRecDepth 20000 in
theorem gX12_ask_X12_bad : GoodIn wsX12_ask (wsV RX12 71 RX12 yX12_bad wsX12_bad) := goodIn_app (goodIn_of _ (by decide +kernel)) ggX12_ask_X12_bad
set_option maxRecDepth 20000 in
theorem ggX12_ask_X12_kindsOfOne : GoodIn wsX12_ask wsX12_kindsOfOne := goodIn_r _ [20, 8, 21, 22, 23, 6, 24, 25, 26, 27, 28, 29, 30, 38, 39, 40, 41, 42, 43, 44, 45, 46, 47, 48, 49, 50, 51, 52, 53, 54, 55, 56] (by decide +kernel) (by decide +kernel)
set_option maxRecDepth 20000 in
theorem gX12_ask_X12_kindsOfOne : GoodIn wsX12_ask (wsV RX12 189 RX12 yX12_kindsOfOne wsX12_kindsOfOne) := goodIn_app (goodIn_of _ (by decide +kernel)) ggX12_ask_X12_kindsOfOne
set_option maxRecDepth 20000 in
theorem ggX12_ask_X12_letsAs : GoodIn wsX12_ask wsX12_letsAs := goodIn_r _ [30] (by decide +kernel) (by decide +kernel)
set_option maxRecDepth 20000 in
theorem gX12_ask_X12_letsAs : GoodIn wsX12_ask (va_wsS RX12 92 yX12_letsAs wsX12_letsAs) := goodIn_app (goodIn_of _ (by decide +kernel)) ggX12_ask_X12_letsAs
set_option maxRecDepth 20000 in
theorem ggX12_ask_X12_mostAlike : GoodIn wsX12_ask wsX12_mostAlike := goodIn_r _ [34, 2, 35, 36, 6, 37, 38, 39, 40, 41, 42, 43, 44, 45, 46, 47, 48, 49, 50, 51, 52, 53, 54, 55, 56] (by decide +kernel) (by decide +kernel)
set_option maxRecDepth 20000 in
theorem gX12_ask_X12_mostAlike : GoodIn wsX12_ask (wsV RX12 186 RX12 yX12_mostAlike wsX12_mostAlike) := goodIn_app (goodIn_of _ (by decide +kernel)) ggX12_ask_X12_mostAlike
theorem dX12_ask_0 : decode cX12_ask 0 = .ok (.aload_n 0, 1) := by decide +kernel
theorem dX12_ask_1 : decode cX12_ask 1 = .ok (.iload_n 1, 1) := by decide +kernel
theorem dX12_ask_2 : decode cX12_ask 2 = .ok (.invokevirtual 78, 3) := by decide +kernel
theorem dX12_ask_5 : decode cX12_ask 5 = .ok (.ifCond .ne 10, 3) := by decide +kernel
theorem dX12_ask_8 : decode cX12_ask 8 = .ok (.aload_n 0, 1) := by decide +kernel
theorem dX12_ask_9 : decode cX12_ask 9 = .ok (.bipush (-2), 2) := by decide +kernel
theorem dX12_ask_11 : decode cX12_ask 11 = .ok (.invokevirtual 71, 3) := by decide +kernel
theorem dX12_ask_14 : decode cX12_ask 14 = .ok (.ireturn, 1) := by decide +kernel
theorem dX12_ask_15 : decode cX12_ask 15 = .ok (.aload_n 0, 1) := by decide +kernel
theorem dX12_ask_16 : decode cX12_ask 16 = .ok (.iload_n 1, 1) := by decide +kernel
theorem dX12_ask_17 : decode cX12_ask 17 = .ok (.invokevirtual 189, 3) := by decide +kernel
theorem dX12_ask_20 : decode cX12_ask 20 = .ok (.istore_n 2, 1) := by decide +kernel
theorem dX12_ask_21 : decode cX12_ask 21 = .ok (.iconst (-1), 1) := by decide +kernel
theorem dX12_ask_22 : decode cX12_ask 22 = .ok (.istore_n 3, 1) := by decide +kernel
theorem dX12_ask_23 : decode cX12_ask 23 = .ok (.ldc 155, 2) := by decide +kernel
theorem dX12_ask_25 : decode cX12_ask 25 = .ok (.istore 4, 2) := by decide +kernel
theorem dX12_ask_27 : decode cX12_ask 27 = .ok (.iconst 0, 1) := by decide +kernel
theorem dX12_ask_28 : decode cX12_ask 28 = .ok (.istore 5, 2) := by decide +kernel
theorem dX12_ask_30 : decode cX12_ask 30 = .ok (.iload 5, 2) := by decide +kernel
theorem dX12_ask_32 : decode cX12_ask 32 = .ok (.bipush 6, 2) := by decide +kernel
theorem dX12_ask_34 : decode cX12_ask 34 = .ok (.if_icmp .ge 104, 3) := by decide +kernel
theorem dX12_ask_37 : decode cX12_ask 37 = .ok (.iload_n 2, 1) := by decide +kernel
theorem dX12_ask_38 : decode cX12_ask 38 = .ok (.ifCond .le 100, 3) := by decide +kernel
theorem dX12_ask_41 : decode cX12_ask 41 = .ok (.iconst 0, 1) := by decide +kernel
theorem dX12_ask_42 : decode cX12_ask 42 = .ok (.istore 6, 2) := by decide +kernel
theorem dX12_ask_44 : decode cX12_ask 44 = .ok (.iload 6, 2) := by decide +kernel
theorem dX12_ask_46 : decode cX12_ask 46 = .ok (.bipush 30, 2) := by decide +kernel
theorem dX12_ask_48 : decode cX12_ask 48 = .ok (.if_icmp .gt 84, 3) := by decide +kernel
theorem dX12_ask_51 : decode cX12_ask 51 = .ok (.iconst 0, 1) := by decide +kernel
theorem dX12_ask_52 : decode cX12_ask 52 = .ok (.istore 7, 2) := by decide +kernel
theorem dX12_ask_54 : decode cX12_ask 54 = .ok (.iload 7, 2) := by decide +kernel
theorem dX12_ask_56 : decode cX12_ask 56 = .ok (.bipush 6, 2) := by decide +kernel
theorem dX12_ask_58 : decode cX12_ask 58 = .ok (.if_icmp .ge 25, 3) := by decide +kernel
theorem dX12_ask_61 : decode cX12_ask 61 = .ok (.aload_n 0, 1) := by decide +kernel
theorem dX12_ask_62 : decode cX12_ask 62 = .ok (.getfield 39, 3) := by decide +kernel
theorem dX12_ask_65 : decode cX12_ask 65 = .ok (.iload 7, 2) := by decide +kernel
theorem dX12_ask_67 : decode cX12_ask 67 = .ok (.iload 7, 2) := by decide +kernel
theorem dX12_ask_69 : decode cX12_ask 69 = .ok (.iload 5, 2) := by decide +kernel
theorem dX12_ask_71 : decode cX12_ask 71 = .ok (.iload 6, 2) := by decide +kernel
theorem dX12_ask_73 : decode cX12_ask 73 = .ok (.invokestatic 92, 3) := by decide +kernel
theorem dX12_ask_76 : decode cX12_ask 76 = .ok (.iastore, 1) := by decide +kernel
theorem dX12_ask_77 : decode cX12_ask 77 = .ok (.iinc 7 1, 3) := by decide +kernel
theorem dX12_ask_80 : decode cX12_ask 80 = .ok (.goto (-26), 3) := by decide +kernel
theorem dX12_ask_83 : decode cX12_ask 83 = .ok (.aload_n 0, 1) := by decide +kernel
theorem dX12_ask_84 : decode cX12_ask 84 = .ok (.iload_n 2, 1) := by decide +kernel
theorem dX12_ask_85 : decode cX12_ask 85 = .ok (.invokevirtual 186, 3) := by decide +kernel
theorem dX12_ask_88 : decode cX12_ask 88 = .ok (.istore 7, 2) := by decide +kernel
theorem dX12_ask_90 : decode cX12_ask 90 = .ok (.iload 7, 2) := by decide +kernel
theorem dX12_ask_92 : decode cX12_ask 92 = .ok (.iload 4, 2) := by decide +kernel
theorem dX12_ask_94 : decode cX12_ask 94 = .ok (.if_icmp .ge 14, 3) := by decide +kernel
theorem dX12_ask_97 : decode cX12_ask 97 = .ok (.bipush 100, 2) := by decide +kernel
theorem dX12_ask_99 : decode cX12_ask 99 = .ok (.iload 5, 2) := by decide +kernel
theorem dX12_ask_101 : decode cX12_ask 101 = .ok (.imul, 1) := by decide +kernel
theorem dX12_ask_102 : decode cX12_ask 102 = .ok (.iload 6, 2) := by decide +kernel
theorem dX12_ask_104 : decode cX12_ask 104 = .ok (.iadd, 1) := by decide +kernel
theorem dX12_ask_105 : decode cX12_ask 105 = .ok (.goto 4, 3) := by decide +kernel
theorem dX12_ask_108 : decode cX12_ask 108 = .ok (.iload_n 3, 1) := by decide +kernel
theorem dX12_ask_109 : decode cX12_ask 109 = .ok (.istore_n 3, 1) := by decide +kernel
theorem dX12_ask_110 : decode cX12_ask 110 = .ok (.iload 7, 2) := by decide +kernel
theorem dX12_ask_112 : decode cX12_ask 112 = .ok (.iload 4, 2) := by decide +kernel
theorem dX12_ask_114 : decode cX12_ask 114 = .ok (.if_icmp .ge 8, 3) := by decide +kernel
theorem dX12_ask_117 : decode cX12_ask 117 = .ok (.iload 7, 2) := by decide +kernel
theorem dX12_ask_119 : decode cX12_ask 119 = .ok (.goto 5, 3) := by decide +kernel
theorem dX12_ask_122 : decode cX12_ask 122 = .ok (.iload 4, 2) := by decide +kernel
theorem dX12_ask_124 : decode cX12_ask 124 = .ok (.istore 4, 2) := by decide +kernel
theorem dX12_ask_126 : decode cX12_ask 126 = .ok (.iinc 6 1, 3) := by decide +kernel
theorem dX12_ask_129 : decode cX12_ask 129 = .ok (.goto (-85), 3) := by decide +kernel
theorem dX12_ask_132 : decode cX12_ask 132 = .ok (.iinc 5 1, 3) := by decide +kernel
theorem dX12_ask_135 : decode cX12_ask 135 = .ok (.goto (-105), 3) := by decide +kernel
theorem dX12_ask_138 : decode cX12_ask 138 = .ok (.iload_n 3, 1) := by decide +kernel
theorem dX12_ask_139 : decode cX12_ask 139 = .ok (.ireturn, 1) := by decide +kernel
theorem dX12_getsBy_0 : decode cX12_getsBy 0 = .ok (.bipush 6, 2) := by decide +kernel
theorem dX12_getsBy_2 : decode cX12_getsBy 2 = .ok (.iload_n 1, 1) := by decide +kernel
theorem dX12_getsBy_3 : decode cX12_getsBy 3 = .ok (.imul, 1) := by decide +kernel
theorem dX12_getsBy_4 : decode cX12_getsBy 4 = .ok (.iload_n 2, 1) := by decide +kernel
theorem dX12_getsBy_5 : decode cX12_getsBy 5 = .ok (.iload_n 0, 1) := by decide +kernel
theorem dX12_getsBy_6 : decode cX12_getsBy 6 = .ok (.imul, 1) := by decide +kernel
theorem dX12_getsBy_7 : decode cX12_getsBy 7 = .ok (.isub, 1) := by decide +kernel
theorem dX12_getsBy_8 : decode cX12_getsBy 8 = .ok (.istore_n 3, 1) := by decide +kernel
theorem dX12_getsBy_9 : decode cX12_getsBy 9 = .ok (.iload_n 0, 1) := by decide +kernel
theorem dX12_getsBy_10 : decode cX12_getsBy 10 = .ok (.iconst 1, 1) := by decide +kernel
theorem dX12_getsBy_11 : decode cX12_getsBy 11 = .ok (.if_icmp .ne 14, 3) := by decide +kernel
theorem dX12_getsBy_14 : decode cX12_getsBy 14 = .ok (.iload_n 1, 1) := by decide +kernel
theorem dX12_getsBy_15 : decode cX12_getsBy 15 = .ok (.iconst 1, 1) := by decide +kernel
theorem dX12_getsBy_16 : decode cX12_getsBy 16 = .ok (.if_icmp .ne 9, 3) := by decide +kernel
theorem dX12_getsBy_19 : decode cX12_getsBy 19 = .ok (.iload_n 3, 1) := by decide +kernel
theorem dX12_getsBy_20 : decode cX12_getsBy 20 = .ok (.iconst 3, 1) := by decide +kernel
theorem dX12_getsBy_21 : decode cX12_getsBy 21 = .ok (.iadd, 1) := by decide +kernel
theorem dX12_getsBy_22 : decode cX12_getsBy 22 = .ok (.goto 18, 3) := by decide +kernel
theorem dX12_getsBy_25 : decode cX12_getsBy 25 = .ok (.iload_n 0, 1) := by decide +kernel
theorem dX12_getsBy_26 : decode cX12_getsBy 26 = .ok (.ifCond .ne 13, 3) := by decide +kernel
theorem dX12_getsBy_29 : decode cX12_getsBy 29 = .ok (.iload_n 1, 1) := by decide +kernel
theorem dX12_getsBy_30 : decode cX12_getsBy 30 = .ok (.ifCond .ne 9, 3) := by decide +kernel
theorem dX12_getsBy_33 : decode cX12_getsBy 33 = .ok (.iload_n 3, 1) := by decide +kernel
theorem dX12_getsBy_34 : decode cX12_getsBy 34 = .ok (.iconst 4, 1) := by decide +kernel
theorem dX12_getsBy_35 : decode cX12_getsBy 35 = .ok (.isub, 1) := by decide +kernel
theorem dX12_getsBy_36 : decode cX12_getsBy 36 = .ok (.goto 4, 3) := by decide +kernel
theorem dX12_getsBy_39 : decode cX12_getsBy 39 = .ok (.iload_n 3, 1) := by decide +kernel
theorem dX12_getsBy_40 : decode cX12_getsBy 40 = .ok (.ireturn, 1) := by decide +kernel
set_option maxRecDepth 20000 in
theorem ggX12_costsOf_X12_letsOf : GoodIn wsX12_costsOf wsX12_letsOf := goodIn_r _ [5, 6, 7, 4, 8] (by decide +kernel) (by decide +kernel)
set_option maxRecDepth 20000 in
theorem gX12_costsOf_X12_letsOf : GoodIn wsX12_costsOf (va_wsS RX12 103 yX12_letsOf wsX12_letsOf) := goodIn_app (goodIn_of _ (by decide +kernel)) ggX12_costsOf_X12_letsOf
theorem dX12_costsOf_0 : decode cX12_costsOf 0 = .ok (.aload_n 0, 1) := by decide +kernel
theorem dX12_costsOf_1 : decode cX12_costsOf 1 = .ok (.getfield 7, 3) := by decide +kernel
theorem dX12_costsOf_4 : decode cX12_costsOf 4 = .ok (.iload_n 1, 1) := by decide +kernel
theorem dX12_costsOf_5 : decode cX12_costsOf 5 = .ok (.invokestatic 103, 3) := by decide +kernel
theorem dX12_costsOf_8 : decode cX12_costsOf 8 = .ok (.iconst 3, 1) := by decide +kernel
theorem dX12_costsOf_9 : decode cX12_costsOf 9 = .ok (.if_icmp .ge 8, 3) := by decide +kernel
theorem dX12_costsOf_12 : decode cX12_costsOf 12 = .ok (.bipush 11, 2) := by decide +kernel
theorem dX12_costsOf_14 : decode cX12_costsOf 14 = .ok (.goto 4, 3) := by decide +kernel
theorem dX12_costsOf_17 : decode cX12_costsOf 17 = .ok (.iconst 2, 1) := by decide +kernel
theorem dX12_costsOf_18 : decode cX12_costsOf 18 = .ok (.ireturn, 1) := by decide +kernel
set_option maxRecDepth 20000 in
theorem ggX12_first_X12_isOne : GoodIn wsX12_first wsX12_isOne := goodIn_r _ [5, 6, 7, 8, 4, 9, 28, 29, 30, 31, 32, 33, 34, 35, 36, 37, 38, 39, 40, 41, 42, 43, 44, 45, 46] (by decide +kernel) (by decide +kernel)
set_option maxRecDepth 20000 in
theorem gX12_first_X12_isOne : GoodIn wsX12_first (wsV RX12 78 RX12 yX12_isOne wsX12_isOne) := goodIn_app (goodIn_of _ (by decide +kernel)) ggX12_first_X12_isOne
set_option maxRecDepth 20000 in
theorem ggX12_first_X12_bad : GoodIn wsX12_first wsX12_bad := goodIn_r _ [13, 14, 28, 29, 30, 31, 32, 33, 34, 35, 36, 37, 38, 39, 40, 41, 42, 43, 44, 45, 46] (by decide +kernel) (by decide +kernel)
set_option maxRecDepth 20000 in
theorem gX12_first_X12_bad : GoodIn wsX12_first (wsV RX12 71 RX12 yX12_bad wsX12_bad) := goodIn_app (goodIn_of _ (by decide +kernel)) ggX12_first_X12_bad
set_option maxRecDepth 20000 in
theorem ggX12_first_X12_costsOf : GoodIn wsX12_first wsX12_costsOf := goodIn_r _ [18, 6, 19, 20, 4, 21, 22, 23, 24, 28, 29, 30, 31, 32, 33, 34, 35, 36, 37, 38, 39, 40, 41, 42, 43, 44, 45, 46] (by decide +kernel) (by decide +kernel)
set_option maxRecDepth 20000 in
theorem gX12_first_X12_costsOf : GoodIn wsX12_first (wsV RX12 192 RX12 yX12_costsOf wsX12_costsOf) := goodIn_app (goodIn_of _ (by decide +kernel)) ggX12_first_X12_costsOf
set_option maxRecDepth 20000 in
theorem ggX12_first_X12_getsBy : GoodIn wsX12_first wsX12_getsBy := goodIn_r _ [27] (by decide +kernel) (by decide +kernel)
set_option maxRecDepth 20000 in
theorem gX12_first_X12_getsBy : GoodIn wsX12_first (va_wsS RX12 195 yX12_getsBy wsX12_getsBy) := goodIn_app (goodIn_of _ (by decide +kernel)) ggX12_first_X12_getsBy
theorem dX12_first_0 : decode cX12_first 0 = .ok (.aload_n 0, 1) := by decide +kernel
theorem dX12_first_1 : decode cX12_first 1 = .ok (.iload_n 1, 1) := by decide +kernel
theorem dX12_first_2 : decode cX12_first 2 = .ok (.invokevirtual 78, 3) := by decide +kernel
theorem dX12_first_5 : decode cX12_first 5 = .ok (.ifCond .eq 16, 3) := by decide +kernel
theorem dX12_first_8 : decode cX12_first 8 = .ok (.aload_n 0, 1) := by decide +kernel
theorem dX12_first_9 : decode cX12_first 9 = .ok (.iload_n 2, 1) := by decide +kernel
theorem dX12_first_10 : decode cX12_first 10 = .ok (.invokevirtual 78, 3) := by decide +kernel
theorem dX12_first_13 : decode cX12_first 13 = .ok (.ifCond .eq 8, 3) := by decide +kernel
theorem dX12_first_16 : decode cX12_first 16 = .ok (.iload_n 1, 1) := by decide +kernel
theorem dX12_first_17 : decode cX12_first 17 = .ok (.iload_n 2, 1) := by decide +kernel
theorem dX12_first_18 : decode cX12_first 18 = .ok (.if_icmp .ne 10, 3) := by decide +kernel
theorem dX12_first_21 : decode cX12_first 21 = .ok (.aload_n 0, 1) := by decide +kernel
theorem dX12_first_22 : decode cX12_first 22 = .ok (.bipush (-2), 2) := by decide +kernel
theorem dX12_first_24 : decode cX12_first 24 = .ok (.invokevirtual 71, 3) := by decide +kernel
theorem dX12_first_27 : decode cX12_first 27 = .ok (.ireturn, 1) := by decide +kernel
theorem dX12_first_28 : decode cX12_first 28 = .ok (.aload_n 0, 1) := by decide +kernel
theorem dX12_first_29 : decode cX12_first 29 = .ok (.iload_n 1, 1) := by decide +kernel
theorem dX12_first_30 : decode cX12_first 30 = .ok (.invokevirtual 192, 3) := by decide +kernel
theorem dX12_first_33 : decode cX12_first 33 = .ok (.istore_n 3, 1) := by decide +kernel
theorem dX12_first_34 : decode cX12_first 34 = .ok (.aload_n 0, 1) := by decide +kernel
theorem dX12_first_35 : decode cX12_first 35 = .ok (.iload_n 2, 1) := by decide +kernel
theorem dX12_first_36 : decode cX12_first 36 = .ok (.invokevirtual 192, 3) := by decide +kernel
theorem dX12_first_39 : decode cX12_first 39 = .ok (.istore 4, 2) := by decide +kernel
theorem dX12_first_41 : decode cX12_first 41 = .ok (.iconst 0, 1) := by decide +kernel
theorem dX12_first_42 : decode cX12_first 42 = .ok (.istore 5, 2) := by decide +kernel
theorem dX12_first_44 : decode cX12_first 44 = .ok (.iconst 0, 1) := by decide +kernel
theorem dX12_first_45 : decode cX12_first 45 = .ok (.istore 6, 2) := by decide +kernel
theorem dX12_first_47 : decode cX12_first 47 = .ok (.iload 6, 2) := by decide +kernel
theorem dX12_first_49 : decode cX12_first 49 = .ok (.iconst 4, 1) := by decide +kernel
theorem dX12_first_50 : decode cX12_first 50 = .ok (.if_icmp .ge 90, 3) := by decide +kernel
theorem dX12_first_53 : decode cX12_first 53 = .ok (.iload 6, 2) := by decide +kernel
theorem dX12_first_55 : decode cX12_first 55 = .ok (.iconst 1, 1) := by decide +kernel
theorem dX12_first_56 : decode cX12_first 56 = .ok (.iand, 1) := by decide +kernel
theorem dX12_first_57 : decode cX12_first 57 = .ok (.istore 7, 2) := by decide +kernel
theorem dX12_first_59 : decode cX12_first 59 = .ok (.iload 6, 2) := by decide +kernel
theorem dX12_first_61 : decode cX12_first 61 = .ok (.iconst 1, 1) := by decide +kernel
theorem dX12_first_62 : decode cX12_first 62 = .ok (.ishr, 1) := by decide +kernel
theorem dX12_first_63 : decode cX12_first 63 = .ok (.istore 8, 2) := by decide +kernel
theorem dX12_first_65 : decode cX12_first 65 = .ok (.iload 7, 2) := by decide +kernel
theorem dX12_first_67 : decode cX12_first 67 = .ok (.iload 8, 2) := by decide +kernel
theorem dX12_first_69 : decode cX12_first 69 = .ok (.iload_n 3, 1) := by decide +kernel
theorem dX12_first_70 : decode cX12_first 70 = .ok (.invokestatic 195, 3) := by decide +kernel
theorem dX12_first_73 : decode cX12_first 73 = .ok (.iconst 1, 1) := by decide +kernel
theorem dX12_first_74 : decode cX12_first 74 = .ok (.iload 7, 2) := by decide +kernel
theorem dX12_first_76 : decode cX12_first 76 = .ok (.isub, 1) := by decide +kernel
theorem dX12_first_77 : decode cX12_first 77 = .ok (.iload 8, 2) := by decide +kernel
theorem dX12_first_79 : decode cX12_first 79 = .ok (.iload_n 3, 1) := by decide +kernel
theorem dX12_first_80 : decode cX12_first 80 = .ok (.invokestatic 195, 3) := by decide +kernel
theorem dX12_first_83 : decode cX12_first 83 = .ok (.if_icmp .lt 30, 3) := by decide +kernel
theorem dX12_first_86 : decode cX12_first 86 = .ok (.iload 8, 2) := by decide +kernel
theorem dX12_first_88 : decode cX12_first 88 = .ok (.iload 7, 2) := by decide +kernel
theorem dX12_first_90 : decode cX12_first 90 = .ok (.iload 4, 2) := by decide +kernel
theorem dX12_first_92 : decode cX12_first 92 = .ok (.invokestatic 195, 3) := by decide +kernel
theorem dX12_first_95 : decode cX12_first 95 = .ok (.iconst 1, 1) := by decide +kernel
theorem dX12_first_96 : decode cX12_first 96 = .ok (.iload 8, 2) := by decide +kernel
theorem dX12_first_98 : decode cX12_first 98 = .ok (.isub, 1) := by decide +kernel
theorem dX12_first_99 : decode cX12_first 99 = .ok (.iload 7, 2) := by decide +kernel
theorem dX12_first_101 : decode cX12_first 101 = .ok (.iload 4, 2) := by decide +kernel
theorem dX12_first_103 : decode cX12_first 103 = .ok (.invokestatic 195, 3) := by decide +kernel
theorem dX12_first_106 : decode cX12_first 106 = .ok (.if_icmp .lt 7, 3) := by decide +kernel
theorem dX12_first_109 : decode cX12_first 109 = .ok (.iconst 1, 1) := by decide +kernel
theorem dX12_first_110 : decode cX12_first 110 = .ok (.goto 4, 3) := by decide +kernel
theorem dX12_first_113 : decode cX12_first 113 = .ok (.iconst 0, 1) := by decide +kernel
theorem dX12_first_114 : decode cX12_first 114 = .ok (.istore 9, 2) := by decide +kernel
theorem dX12_first_116 : decode cX12_first 116 = .ok (.iload 5, 2) := by decide +kernel
theorem dX12_first_118 : decode cX12_first 118 = .ok (.iload 9, 2) := by decide +kernel
theorem dX12_first_120 : decode cX12_first 120 = .ok (.ifCond .eq 10, 3) := by decide +kernel
theorem dX12_first_123 : decode cX12_first 123 = .ok (.iconst 1, 1) := by decide +kernel
theorem dX12_first_124 : decode cX12_first 124 = .ok (.iload 6, 2) := by decide +kernel
theorem dX12_first_126 : decode cX12_first 126 = .ok (.ishl, 1) := by decide +kernel
theorem dX12_first_127 : decode cX12_first 127 = .ok (.goto 4, 3) := by decide +kernel
theorem dX12_first_130 : decode cX12_first 130 = .ok (.iconst 0, 1) := by decide +kernel
theorem dX12_first_131 : decode cX12_first 131 = .ok (.ior, 1) := by decide +kernel
theorem dX12_first_132 : decode cX12_first 132 = .ok (.istore 5, 2) := by decide +kernel
theorem dX12_first_134 : decode cX12_first 134 = .ok (.iinc 6 1, 3) := by decide +kernel
theorem dX12_first_137 : decode cX12_first 137 = .ok (.goto (-90), 3) := by decide +kernel
theorem dX12_first_140 : decode cX12_first 140 = .ok (.iload 5, 2) := by decide +kernel
theorem dX12_first_142 : decode cX12_first 142 = .ok (.ireturn, 1) := by decide +kernel
theorem dX12_fraction_0 : decode cX12_fraction 0 = .ok (.lload_n 1, 1) := by decide +kernel
theorem dX12_fraction_1 : decode cX12_fraction 1 = .ok (.lstore 5, 2) := by decide +kernel
theorem dX12_fraction_3 : decode cX12_fraction 3 = .ok (.lload_n 3, 1) := by decide +kernel
theorem dX12_fraction_4 : decode cX12_fraction 4 = .ok (.lstore 7, 2) := by decide +kernel
theorem dX12_fraction_6 : decode cX12_fraction 6 = .ok (.lload 7, 2) := by decide +kernel
theorem dX12_fraction_8 : decode cX12_fraction 8 = .ok (.lconst 0, 1) := by decide +kernel
theorem dX12_fraction_9 : decode cX12_fraction 9 = .ok (.lcmp, 1) := by decide +kernel
theorem dX12_fraction_10 : decode cX12_fraction 10 = .ok (.ifCond .eq 21, 3) := by decide +kernel
theorem dX12_fraction_13 : decode cX12_fraction 13 = .ok (.lload 5, 2) := by decide +kernel
theorem dX12_fraction_15 : decode cX12_fraction 15 = .ok (.lload 7, 2) := by decide +kernel
theorem dX12_fraction_17 : decode cX12_fraction 17 = .ok (.lrem, 1) := by decide +kernel
theorem dX12_fraction_18 : decode cX12_fraction 18 = .ok (.lstore 9, 2) := by decide +kernel
theorem dX12_fraction_20 : decode cX12_fraction 20 = .ok (.lload 7, 2) := by decide +kernel
theorem dX12_fraction_22 : decode cX12_fraction 22 = .ok (.lstore 5, 2) := by decide +kernel
theorem dX12_fraction_24 : decode cX12_fraction 24 = .ok (.lload 9, 2) := by decide +kernel
theorem dX12_fraction_26 : decode cX12_fraction 26 = .ok (.lstore 7, 2) := by decide +kernel
theorem dX12_fraction_28 : decode cX12_fraction 28 = .ok (.goto (-22), 3) := by decide +kernel
theorem dX12_fraction_31 : decode cX12_fraction 31 = .ok (.aload_n 0, 1) := by decide +kernel
theorem dX12_fraction_32 : decode cX12_fraction 32 = .ok (.lload_n 1, 1) := by decide +kernel
theorem dX12_fraction_33 : decode cX12_fraction 33 = .ok (.lload 5, 2) := by decide +kernel
theorem dX12_fraction_35 : decode cX12_fraction 35 = .ok (.ldiv, 1) := by decide +kernel
theorem dX12_fraction_36 : decode cX12_fraction 36 = .ok (.putfield 198, 3) := by decide +kernel
theorem dX12_fraction_39 : decode cX12_fraction 39 = .ok (.aload_n 0, 1) := by decide +kernel
theorem dX12_fraction_40 : decode cX12_fraction 40 = .ok (.lload_n 3, 1) := by decide +kernel
theorem dX12_fraction_41 : decode cX12_fraction 41 = .ok (.lload 5, 2) := by decide +kernel
theorem dX12_fraction_43 : decode cX12_fraction 43 = .ok (.ldiv, 1) := by decide +kernel
theorem dX12_fraction_44 : decode cX12_fraction 44 = .ok (.putfield 23, 3) := by decide +kernel
theorem dX12_fraction_47 : decode cX12_fraction 47 = .ok (.return_, 1) := by decide +kernel
set_option maxRecDepth 20000 in
theorem ggX12_rust_X12_isWrong : GoodIn wsX12_rust wsX12_isWrong := goodIn_r _ [7, 8, 9, 10, 6, 11, 12, 13, 14, 15, 52, 53, 54, 55, 56, 57, 58, 59, 60, 61, 62, 63, 64, 65, 66, 67, 68, 69, 70] (by decide +kernel) (by decide +kernel)
set_option maxRecDepth 20000 in
theorem gX12_rust_X12_isWrong : GoodIn wsX12_rust (wsV RX12 118 RX12 yX12_isWrong wsX12_isWrong) := goodIn_app (goodIn_of _ (by decide +kernel)) ggX12_rust_X12_isWrong
set_option maxRecDepth 20000 in
theorem ggX12_rust_X12_many : GoodIn wsX12_rust wsX12_many := goodIn_r _ [11, 12, 52, 53, 54, 55, 56, 57, 58, 59, 60, 61, 62, 63, 64, 65, 66, 67, 68, 69, 70] (by decide +kernel) (by decide +kernel)
set_option maxRecDepth 20000 in
theorem gX12_rust_X12_many : GoodIn wsX12_rust (wsV RX12 59 RX12 yX12_many wsX12_many) := goodIn_app (goodIn_of _ (by decide +kernel)) ggX12_rust_X12_many
set_option maxRecDepth 20000 in
theorem ggX12_rust_X12_in : GoodIn wsX12_rust wsX12_in := goodIn_r _ [15] (by decide +kernel) (by decide +kernel)
set_option maxRecDepth 20000 in
theorem gX12_rust_X12_in : GoodIn wsX12_rust (va_wsS RX12 55 yX12_in wsX12_in) := goodIn_app (goodIn_of _ (by decide +kernel)) ggX12_rust_X12_in
set_option maxRecDepth 20000 in
theorem ggX12_rust_X12_has : GoodIn wsX12_rust wsX12_has := goodIn_r _ [18] (by decide +kernel) (by decide +kernel)
set_option maxRecDepth 20000 in
theorem gX12_rust_X12_has : GoodIn wsX12_rust (va_wsS RX12 95 yX12_has wsX12_has) := goodIn_app (goodIn_of _ (by decide +kernel)) ggX12_rust_X12_has
set_option maxRecDepth 20000 in
theorem ggX12_rust_X12_bad : GoodIn wsX12_rust wsX12_bad := goodIn_r _ [22, 23, 52, 53, 54, 55, 56, 57, 58, 59, 60, 61, 62, 63, 64, 65, 66, 67, 68, 69, 70] (by decide +kernel) (by decide +kernel)
set_option maxRecDepth 20000 in
theorem gX12_rust_X12_bad : GoodIn wsX12_rust (wsV RX12 71 RX12 yX12_bad wsX12_bad) := goodIn_app (goodIn_of _ (by decide +kernel)) ggX12_rust_X12_bad
set_option maxRecDepth 20000 in
theorem ggX12_rust_X12_layHand : GoodIn wsX12_rust wsX12_layHand := goodIn_r _ [27, 2, 12, 52, 53, 54, 55, 56, 57, 58, 59, 60, 61, 62, 63, 64, 65, 66, 67, 68, 69, 70] (by decide +kernel) (by decide +kernel)
set_option maxRecDepth 20000 in
theorem gX12_rust_X12_layHand : GoodIn wsX12_rust (wsV RX12 152 RX12 yX12_layHand wsX12_layHand) := goodIn_app (goodIn_of _ (by decide +kernel)) ggX12_rust_X12_layHand
set_option maxRecDepth 20000 in
theorem ggX12_rust_X12_canOff : GoodIn wsX12_rust wsX12_canOff := goodIn_r _ [30, 16, 17, 6, 18, 31, 32, 33, 34, 35, 36, 37, 38, 39, 40, 41, 42] (by decide +kernel) (by decide +kernel)
set_option maxRecDepth 20000 in
theorem gX12_rust_X12_canOff : GoodIn wsX12_rust (va_wsS RX12 121 yX12_canOff wsX12_canOff) := goodIn_app (goodIn_of _ (by decide +kernel)) ggX12_rust_X12_canOff
set_option maxRecDepth 20000 in
theorem ggX12_rust_X12_goOff : GoodIn wsX12_rust wsX12_goOff := goodIn_r _ [45] (by decide +kernel) (by decide +kernel)
set_option maxRecDepth 20000 in
theorem gX12_rust_X12_goOff : GoodIn wsX12_rust (va_wsS RX12 128 yX12_goOff wsX12_goOff) := goodIn_app (goodIn_of _ (by decide +kernel)) ggX12_rust_X12_goOff
set_option maxRecDepth 20000 in
theorem ggX12_rust_X12_fraction : GoodIn wsX12_rust wsX12_fraction := goodIn_r _ [49, 50, 51, 52, 53, 54, 55, 56, 57, 58, 59, 60, 61, 62, 63, 64, 65, 66, 67, 68, 69, 70] (by decide +kernel) (by decide +kernel)
set_option maxRecDepth 20000 in
theorem gX12_rust_X12_fraction : GoodIn wsX12_rust (wsV RX12 203 RX12 yX12_fraction wsX12_fraction) := goodIn_app (goodIn_of _ (by decide +kernel)) ggX12_rust_X12_fraction
theorem dX12_rust_0 : decode cX12_rust 0 = .ok (.aload_n 0, 1) := by decide +kernel
theorem dX12_rust_1 : decode cX12_rust 1 = .ok (.iload_n 1, 1) := by decide +kernel
theorem dX12_rust_2 : decode cX12_rust 2 = .ok (.invokevirtual 118, 3) := by decide +kernel
theorem dX12_rust_5 : decode cX12_rust 5 = .ok (.ifCond .eq 41, 3) := by decide +kernel
theorem dX12_rust_8 : decode cX12_rust 8 = .ok (.iload_n 2, 1) := by decide +kernel
theorem dX12_rust_9 : decode cX12_rust 9 = .ok (.i2l, 1) := by decide +kernel
theorem dX12_rust_10 : decode cX12_rust 10 = .ok (.lconst 0, 1) := by decide +kernel
theorem dX12_rust_11 : decode cX12_rust 11 = .ok (.iconst 1, 1) := by decide +kernel
theorem dX12_rust_12 : decode cX12_rust 12 = .ok (.aload_n 0, 1) := by decide +kernel
theorem dX12_rust_13 : decode cX12_rust 13 = .ok (.invokevirtual 59, 3) := by decide +kernel
theorem dX12_rust_16 : decode cX12_rust 16 = .ok (.ishl, 1) := by decide +kernel
theorem dX12_rust_17 : decode cX12_rust 17 = .ok (.iconst 1, 1) := by decide +kernel
theorem dX12_rust_18 : decode cX12_rust 18 = .ok (.isub, 1) := by decide +kernel
theorem dX12_rust_19 : decode cX12_rust 19 = .ok (.i2l, 1) := by decide +kernel
theorem dX12_rust_20 : decode cX12_rust 20 = .ok (.invokestatic 55, 3) := by decide +kernel
theorem dX12_rust_23 : decode cX12_rust 23 = .ok (.ifCond .eq 23, 3) := by decide +kernel
theorem dX12_rust_26 : decode cX12_rust 26 = .ok (.iload_n 2, 1) := by decide +kernel
theorem dX12_rust_27 : decode cX12_rust 27 = .ok (.iload_n 1, 1) := by decide +kernel
theorem dX12_rust_28 : decode cX12_rust 28 = .ok (.invokestatic 95, 3) := by decide +kernel
theorem dX12_rust_31 : decode cX12_rust 31 = .ok (.ifCond .ne 15, 3) := by decide +kernel
theorem dX12_rust_34 : decode cX12_rust 34 = .ok (.iload_n 3, 1) := by decide +kernel
theorem dX12_rust_35 : decode cX12_rust 35 = .ok (.i2l, 1) := by decide +kernel
theorem dX12_rust_36 : decode cX12_rust 36 = .ok (.lconst 0, 1) := by decide +kernel
theorem dX12_rust_37 : decode cX12_rust 37 = .ok (.ldc2_w 201, 3) := by decide +kernel
theorem dX12_rust_40 : decode cX12_rust 40 = .ok (.invokestatic 55, 3) := by decide +kernel
theorem dX12_rust_43 : decode cX12_rust 43 = .ok (.ifCond .ne 10, 3) := by decide +kernel
theorem dX12_rust_46 : decode cX12_rust 46 = .ok (.aload_n 0, 1) := by decide +kernel
theorem dX12_rust_47 : decode cX12_rust 47 = .ok (.bipush (-2), 2) := by decide +kernel
theorem dX12_rust_49 : decode cX12_rust 49 = .ok (.invokevirtual 71, 3) := by decide +kernel
theorem dX12_rust_52 : decode cX12_rust 52 = .ok (.ireturn, 1) := by decide +kernel
theorem dX12_rust_53 : decode cX12_rust 53 = .ok (.lconst 0, 1) := by decide +kernel
theorem dX12_rust_54 : decode cX12_rust 54 = .ok (.lstore 4, 2) := by decide +kernel
theorem dX12_rust_56 : decode cX12_rust 56 = .ok (.lconst 1, 1) := by decide +kernel
theorem dX12_rust_57 : decode cX12_rust 57 = .ok (.lstore 6, 2) := by decide +kernel
theorem dX12_rust_59 : decode cX12_rust 59 = .ok (.iconst 0, 1) := by decide +kernel
theorem dX12_rust_60 : decode cX12_rust 60 = .ok (.istore 8, 2) := by decide +kernel
theorem dX12_rust_62 : decode cX12_rust 62 = .ok (.iload 8, 2) := by decide +kernel
theorem dX12_rust_64 : decode cX12_rust 64 = .ok (.aload_n 0, 1) := by decide +kernel
theorem dX12_rust_65 : decode cX12_rust 65 = .ok (.invokevirtual 59, 3) := by decide +kernel
theorem dX12_rust_68 : decode cX12_rust 68 = .ok (.if_icmp .ge 30, 3) := by decide +kernel
theorem dX12_rust_71 : decode cX12_rust 71 = .ok (.lload 6, 2) := by decide +kernel
theorem dX12_rust_73 : decode cX12_rust 73 = .ok (.iload_n 2, 1) := by decide +kernel
theorem dX12_rust_74 : decode cX12_rust 74 = .ok (.iload 8, 2) := by decide +kernel
theorem dX12_rust_76 : decode cX12_rust 76 = .ok (.invokestatic 95, 3) := by decide +kernel
theorem dX12_rust_79 : decode cX12_rust 79 = .ok (.ifCond .eq 9, 3) := by decide +kernel
theorem dX12_rust_82 : decode cX12_rust 82 = .ok (.ldc2_w 201, 3) := by decide +kernel
theorem dX12_rust_85 : decode cX12_rust 85 = .ok (.goto 4, 3) := by decide +kernel
theorem dX12_rust_88 : decode cX12_rust 88 = .ok (.lconst 1, 1) := by decide +kernel
theorem dX12_rust_89 : decode cX12_rust 89 = .ok (.lmul, 1) := by decide +kernel
theorem dX12_rust_90 : decode cX12_rust 90 = .ok (.lstore 6, 2) := by decide +kernel
theorem dX12_rust_92 : decode cX12_rust 92 = .ok (.iinc 8 1, 3) := by decide +kernel
theorem dX12_rust_95 : decode cX12_rust 95 = .ok (.goto (-33), 3) := by decide +kernel
theorem dX12_rust_98 : decode cX12_rust 98 = .ok (.iconst 0, 1) := by decide +kernel
theorem dX12_rust_99 : decode cX12_rust 99 = .ok (.istore 8, 2) := by decide +kernel
theorem dX12_rust_101 : decode cX12_rust 101 = .ok (.iload 8, 2) := by decide +kernel
theorem dX12_rust_103 : decode cX12_rust 103 = .ok (.iconst 1, 1) := by decide +kernel
theorem dX12_rust_104 : decode cX12_rust 104 = .ok (.aload_n 0, 1) := by decide +kernel
theorem dX12_rust_105 : decode cX12_rust 105 = .ok (.invokevirtual 59, 3) := by decide +kernel
theorem dX12_rust_108 : decode cX12_rust 108 = .ok (.ishl, 1) := by decide +kernel
theorem dX12_rust_109 : decode cX12_rust 109 = .ok (.if_icmp .ge 135, 3) := by decide +kernel
theorem dX12_rust_112 : decode cX12_rust 112 = .ok (.iload 8, 2) := by decide +kernel
theorem dX12_rust_114 : decode cX12_rust 114 = .ok (.iload_n 2, 1) := by decide +kernel
theorem dX12_rust_115 : decode cX12_rust 115 = .ok (.iconst (-1), 1) := by decide +kernel
theorem dX12_rust_116 : decode cX12_rust 116 = .ok (.ixor, 1) := by decide +kernel
theorem dX12_rust_117 : decode cX12_rust 117 = .ok (.iand, 1) := by decide +kernel
theorem dX12_rust_118 : decode cX12_rust 118 = .ok (.ifCond .ne 120, 3) := by decide +kernel
theorem dX12_rust_121 : decode cX12_rust 121 = .ok (.lconst 1, 1) := by decide +kernel
theorem dX12_rust_122 : decode cX12_rust 122 = .ok (.lstore 9, 2) := by decide +kernel
theorem dX12_rust_124 : decode cX12_rust 124 = .ok (.aload_n 0, 1) := by decide +kernel
theorem dX12_rust_125 : decode cX12_rust 125 = .ok (.invokevirtual 152, 3) := by decide +kernel
theorem dX12_rust_128 : decode cX12_rust 128 = .ok (.iconst 0, 1) := by decide +kernel
theorem dX12_rust_129 : decode cX12_rust 129 = .ok (.istore 11, 2) := by decide +kernel
theorem dX12_rust_131 : decode cX12_rust 131 = .ok (.iload 11, 2) := by decide +kernel
theorem dX12_rust_133 : decode cX12_rust 133 = .ok (.aload_n 0, 1) := by decide +kernel
theorem dX12_rust_134 : decode cX12_rust 134 = .ok (.invokevirtual 59, 3) := by decide +kernel
theorem dX12_rust_137 : decode cX12_rust 137 = .ok (.if_icmp .ge 79, 3) := by decide +kernel
theorem dX12_rust_140 : decode cX12_rust 140 = .ok (.iload_n 2, 1) := by decide +kernel
theorem dX12_rust_141 : decode cX12_rust 141 = .ok (.iload 11, 2) := by decide +kernel
theorem dX12_rust_143 : decode cX12_rust 143 = .ok (.invokestatic 95, 3) := by decide +kernel
theorem dX12_rust_146 : decode cX12_rust 146 = .ok (.ifCond .eq 64, 3) := by decide +kernel
theorem dX12_rust_149 : decode cX12_rust 149 = .ok (.lload 9, 2) := by decide +kernel
theorem dX12_rust_151 : decode cX12_rust 151 = .ok (.iload 8, 2) := by decide +kernel
theorem dX12_rust_153 : decode cX12_rust 153 = .ok (.iload 11, 2) := by decide +kernel
theorem dX12_rust_155 : decode cX12_rust 155 = .ok (.invokestatic 95, 3) := by decide +kernel
theorem dX12_rust_158 : decode cX12_rust 158 = .ok (.ifCond .eq 8, 3) := by decide +kernel
theorem dX12_rust_161 : decode cX12_rust 161 = .ok (.iload_n 3, 1) := by decide +kernel
theorem dX12_rust_162 : decode cX12_rust 162 = .ok (.i2l, 1) := by decide +kernel
theorem dX12_rust_163 : decode cX12_rust 163 = .ok (.goto 8, 3) := by decide +kernel
theorem dX12_rust_166 : decode cX12_rust 166 = .ok (.bipush 10, 2) := by decide +kernel
theorem dX12_rust_168 : decode cX12_rust 168 = .ok (.iload_n 3, 1) := by decide +kernel
theorem dX12_rust_169 : decode cX12_rust 169 = .ok (.isub, 1) := by decide +kernel
theorem dX12_rust_170 : decode cX12_rust 170 = .ok (.i2l, 1) := by decide +kernel
theorem dX12_rust_171 : decode cX12_rust 171 = .ok (.lmul, 1) := by decide +kernel
theorem dX12_rust_172 : decode cX12_rust 172 = .ok (.lstore 9, 2) := by decide +kernel
theorem dX12_rust_174 : decode cX12_rust 174 = .ok (.aload_n 0, 1) := by decide +kernel
theorem dX12_rust_175 : decode cX12_rust 175 = .ok (.getfield 33, 3) := by decide +kernel
theorem dX12_rust_178 : decode cX12_rust 178 = .ok (.iload 11, 2) := by decide +kernel
theorem dX12_rust_180 : decode cX12_rust 180 = .ok (.invokestatic 121, 3) := by decide +kernel
theorem dX12_rust_183 : decode cX12_rust 183 = .ok (.ifCond .eq 27, 3) := by decide +kernel
theorem dX12_rust_186 : decode cX12_rust 186 = .ok (.aload_n 0, 1) := by decide +kernel
theorem dX12_rust_187 : decode cX12_rust 187 = .ok (.getfield 33, 3) := by decide +kernel
theorem dX12_rust_190 : decode cX12_rust 190 = .ok (.iload 11, 2) := by decide +kernel
theorem dX12_rust_192 : decode cX12_rust 192 = .ok (.iload 8, 2) := by decide +kernel
theorem dX12_rust_194 : decode cX12_rust 194 = .ok (.iload 11, 2) := by decide +kernel
theorem dX12_rust_196 : decode cX12_rust 196 = .ok (.invokestatic 95, 3) := by decide +kernel
theorem dX12_rust_199 : decode cX12_rust 199 = .ok (.ifCond .ne 7, 3) := by decide +kernel
theorem dX12_rust_202 : decode cX12_rust 202 = .ok (.iconst 1, 1) := by decide +kernel
theorem dX12_rust_203 : decode cX12_rust 203 = .ok (.goto 4, 3) := by decide +kernel
theorem dX12_rust_206 : decode cX12_rust 206 = .ok (.iconst 0, 1) := by decide +kernel
theorem dX12_rust_207 : decode cX12_rust 207 = .ok (.invokestatic 128, 3) := by decide +kernel
theorem dX12_rust_210 : decode cX12_rust 210 = .ok (.iinc 11 1, 3) := by decide +kernel
theorem dX12_rust_213 : decode cX12_rust 213 = .ok (.goto (-82), 3) := by decide +kernel
theorem dX12_rust_216 : decode cX12_rust 216 = .ok (.lload 4, 2) := by decide +kernel
theorem dX12_rust_218 : decode cX12_rust 218 = .ok (.aload_n 0, 1) := by decide +kernel
theorem dX12_rust_219 : decode cX12_rust 219 = .ok (.getfield 33, 3) := by decide +kernel
theorem dX12_rust_222 : decode cX12_rust 222 = .ok (.iload_n 1, 1) := by decide +kernel
theorem dX12_rust_223 : decode cX12_rust 223 = .ok (.invokestatic 121, 3) := by decide +kernel
theorem dX12_rust_226 : decode cX12_rust 226 = .ok (.ifCond .eq 8, 3) := by decide +kernel
theorem dX12_rust_229 : decode cX12_rust 229 = .ok (.lload 9, 2) := by decide +kernel
theorem dX12_rust_231 : decode cX12_rust 231 = .ok (.goto 4, 3) := by decide +kernel
theorem dX12_rust_234 : decode cX12_rust 234 = .ok (.lconst 0, 1) := by decide +kernel
theorem dX12_rust_235 : decode cX12_rust 235 = .ok (.ladd, 1) := by decide +kernel
theorem dX12_rust_236 : decode cX12_rust 236 = .ok (.lstore 4, 2) := by decide +kernel
theorem dX12_rust_238 : decode cX12_rust 238 = .ok (.iinc 8 1, 3) := by decide +kernel
theorem dX12_rust_241 : decode cX12_rust 241 = .ok (.goto (-140), 3) := by decide +kernel
theorem dX12_rust_244 : decode cX12_rust 244 = .ok (.aload_n 0, 1) := by decide +kernel
theorem dX12_rust_245 : decode cX12_rust 245 = .ok (.lload 4, 2) := by decide +kernel
theorem dX12_rust_247 : decode cX12_rust 247 = .ok (.lload 6, 2) := by decide +kernel
theorem dX12_rust_249 : decode cX12_rust 249 = .ok (.invokevirtual 203, 3) := by decide +kernel
theorem dX12_rust_252 : decode cX12_rust 252 = .ok (.iconst 1, 1) := by decide +kernel
theorem dX12_rust_253 : decode cX12_rust 253 = .ok (.ireturn, 1) := by decide +kernel
set_option maxRecDepth 20000 in
theorem ggX12_easters_X12_in : GoodIn wsX12_easters wsX12_in := goodIn_r _ [12] (by decide +kernel) (by decide +kernel)
set_option maxRecDepth 20000 in
theorem gX12_easters_X12_in : GoodIn wsX12_easters (va_wsS RX12 55 yX12_in wsX12_in) := goodIn_app (goodIn_of _ (by decide +kernel)) ggX12_easters_X12_in
set_option maxRecDepth 20000 in
theorem ggX12_easters_X12_bad : GoodIn wsX12_easters wsX12_bad := goodIn_r _ [16, 17, 58, 59, 60, 61, 62, 63, 64, 65, 66, 67, 68, 69, 70, 71, 72, 73, 74, 75, 76] (by decide +kernel) (by decide +kernel)
set_option maxRecDepth 20000 in
theorem gX12_easters_X12_bad : GoodIn wsX12_easters (wsV RX12 71 RX12 yX12_bad wsX12_bad) := goodIn_app (goodIn_of _ (by decide +kernel)) ggX12_easters_X12_bad
set_option maxRecDepth 20000 in
theorem ggX12_easters_X12_layHand : GoodIn wsX12_easters wsX12_layHand := goodIn_r _ [21, 8, 22, 58, 59, 60, 61, 62, 63, 64, 65, 66, 67, 68, 69, 70, 71, 72, 73, 74, 75, 76] (by decide +kernel) (by decide +kernel)
set_option maxRecDepth 20000 in
theorem gX12_easters_X12_layHand : GoodIn wsX12_easters (wsV RX12 152 RX12 yX12_layHand wsX12_layHand) := goodIn_app (goodIn_of _ (by decide +kernel)) ggX12_easters_X12_layHand
set_option maxRecDepth 20000 in
theorem ggX12_easters_X12_isWrong : GoodIn wsX12_easters wsX12_isWrong := goodIn_r _ [26, 27, 28, 29, 11, 30, 22, 9, 10, 12, 58, 59, 60, 61, 62, 63, 64, 65, 66, 67, 68, 69, 70, 71, 72, 73, 74, 75, 76] (by decide +kernel) (by decide +kernel)
set_option maxRecDepth 20000 in
theorem gX12_easters_X12_isWrong : GoodIn wsX12_easters (wsV RX12 118 RX12 yX12_isWrong wsX12_isWrong) := goodIn_app (goodIn_of _ (by decide +kernel)) ggX12_easters_X12_isWrong
set_option maxRecDepth 20000 in
theorem ggX12_easters_X12_canOff : GoodIn wsX12_easters wsX12_canOff := goodIn_r _ [33, 34, 35, 11, 36, 37, 38, 39, 40, 41, 42, 43, 44, 45, 46, 47, 48] (by decide +kernel) (by decide +kernel)
set_option maxRecDepth 20000 in
theorem gX12_easters_X12_canOff : GoodIn wsX12_easters (va_wsS RX12 121 yX12_canOff wsX12_canOff) := goodIn_app (goodIn_of _ (by decide +kernel)) ggX12_easters_X12_canOff
set_option maxRecDepth 20000 in
theorem ggX12_easters_X12_goOff : GoodIn wsX12_easters wsX12_goOff := goodIn_r _ [51] (by decide +kernel) (by decide +kernel)
set_option maxRecDepth 20000 in
theorem gX12_easters_X12_goOff : GoodIn wsX12_easters (va_wsS RX12 128 yX12_goOff wsX12_goOff) := goodIn_app (goodIn_of _ (by decide +kernel)) ggX12_easters_X12_goOff
set_option maxRecDepth 20000 in
theorem ggX12_easters_X12_goDay : GoodIn wsX12_easters wsX12_goDay := goodIn_r _ [54, 34, 35, 11, 36] (by decide +kernel) (by decide +kernel)
set_option maxRecDepth 20000 in
theorem gX12_easters_X12_goDay : GoodIn wsX12_easters (va_wsS RX12 106 yX12_goDay wsX12_goDay) := goodIn_app (goodIn_of _ (by decide +kernel)) ggX12_easters_X12_goDay
set_option maxRecDepth 20000 in
theorem ggX12_easters_X12_bits : GoodIn wsX12_easters wsX12_bits := goodIn_r _ [57] (by decide +kernel) (by decide +kernel)
set_option maxRecDepth 20000 in
theorem gX12_easters_X12_bits : GoodIn wsX12_easters (va_wsS RX12 163 yX12_bits wsX12_bits) := goodIn_app (goodIn_of _ (by decide +kernel)) ggX12_easters_X12_bits
theorem dX12_easters_0 : decode cX12_easters 0 = .ok (.iload_n 1, 1) := by decide +kernel
theorem dX12_easters_1 : decode cX12_easters 1 = .ok (.i2l, 1) := by decide +kernel
theorem dX12_easters_2 : decode cX12_easters 2 = .ok (.lconst 0, 1) := by decide +kernel
theorem dX12_easters_3 : decode cX12_easters 3 = .ok (.ldc2_w 207, 3) := by decide +kernel
theorem dX12_easters_6 : decode cX12_easters 6 = .ok (.invokestatic 55, 3) := by decide +kernel
theorem dX12_easters_9 : decode cX12_easters 9 = .ok (.ifCond .eq 15, 3) := by decide +kernel
theorem dX12_easters_12 : decode cX12_easters 12 = .ok (.iload_n 2, 1) := by decide +kernel
theorem dX12_easters_13 : decode cX12_easters 13 = .ok (.i2l, 1) := by decide +kernel
theorem dX12_easters_14 : decode cX12_easters 14 = .ok (.lconst 0, 1) := by decide +kernel
theorem dX12_easters_15 : decode cX12_easters 15 = .ok (.ldc2_w 109, 3) := by decide +kernel
theorem dX12_easters_18 : decode cX12_easters 18 = .ok (.invokestatic 55, 3) := by decide +kernel
theorem dX12_easters_21 : decode cX12_easters 21 = .ok (.ifCond .ne 10, 3) := by decide +kernel
theorem dX12_easters_24 : decode cX12_easters 24 = .ok (.aload_n 0, 1) := by decide +kernel
theorem dX12_easters_25 : decode cX12_easters 25 = .ok (.bipush (-2), 2) := by decide +kernel
theorem dX12_easters_27 : decode cX12_easters 27 = .ok (.invokevirtual 71, 3) := by decide +kernel
theorem dX12_easters_30 : decode cX12_easters 30 = .ok (.ireturn, 1) := by decide +kernel
theorem dX12_easters_31 : decode cX12_easters 31 = .ok (.iload_n 1, 1) := by decide +kernel
theorem dX12_easters_32 : decode cX12_easters 32 = .ok (.i2l, 1) := by decide +kernel
theorem dX12_easters_33 : decode cX12_easters 33 = .ok (.lstore_n 3, 1) := by decide +kernel
theorem dX12_easters_34 : decode cX12_easters 34 = .ok (.aload_n 0, 1) := by decide +kernel
theorem dX12_easters_35 : decode cX12_easters 35 = .ok (.invokevirtual 152, 3) := by decide +kernel
theorem dX12_easters_38 : decode cX12_easters 38 = .ok (.iconst 0, 1) := by decide +kernel
theorem dX12_easters_39 : decode cX12_easters 39 = .ok (.istore 5, 2) := by decide +kernel
theorem dX12_easters_41 : decode cX12_easters 41 = .ok (.iload 5, 2) := by decide +kernel
theorem dX12_easters_43 : decode cX12_easters 43 = .ok (.iload_n 2, 1) := by decide +kernel
theorem dX12_easters_44 : decode cX12_easters 44 = .ok (.if_icmp .ge 73, 3) := by decide +kernel
theorem dX12_easters_47 : decode cX12_easters 47 = .ok (.lload_n 3, 1) := by decide +kernel
theorem dX12_easters_48 : decode cX12_easters 48 = .ok (.ldc2_w 209, 3) := by decide +kernel
theorem dX12_easters_51 : decode cX12_easters 51 = .ok (.lmul, 1) := by decide +kernel
theorem dX12_easters_52 : decode cX12_easters 52 = .ok (.ldc2_w 211, 3) := by decide +kernel
theorem dX12_easters_55 : decode cX12_easters 55 = .ok (.ladd, 1) := by decide +kernel
theorem dX12_easters_56 : decode cX12_easters 56 = .ok (.ldc2_w 213, 3) := by decide +kernel
theorem dX12_easters_59 : decode cX12_easters 59 = .ok (.lrem, 1) := by decide +kernel
theorem dX12_easters_60 : decode cX12_easters 60 = .ok (.lstore_n 3, 1) := by decide +kernel
theorem dX12_easters_61 : decode cX12_easters 61 = .ok (.lload_n 3, 1) := by decide +kernel
theorem dX12_easters_62 : decode cX12_easters 62 = .ok (.ldc2_w 215, 3) := by decide +kernel
theorem dX12_easters_65 : decode cX12_easters 65 = .ok (.ldiv, 1) := by decide +kernel
theorem dX12_easters_66 : decode cX12_easters 66 = .ok (.ldc2_w 217, 3) := by decide +kernel
theorem dX12_easters_69 : decode cX12_easters 69 = .ok (.lrem, 1) := by decide +kernel
theorem dX12_easters_70 : decode cX12_easters 70 = .ok (.l2i, 1) := by decide +kernel
theorem dX12_easters_71 : decode cX12_easters 71 = .ok (.istore 6, 2) := by decide +kernel
theorem dX12_easters_73 : decode cX12_easters 73 = .ok (.aload_n 0, 1) := by decide +kernel
theorem dX12_easters_74 : decode cX12_easters 74 = .ok (.iload 6, 2) := by decide +kernel
theorem dX12_easters_76 : decode cX12_easters 76 = .ok (.invokevirtual 118, 3) := by decide +kernel
theorem dX12_easters_79 : decode cX12_easters 79 = .ok (.ifCond .eq 25, 3) := by decide +kernel
theorem dX12_easters_82 : decode cX12_easters 82 = .ok (.aload_n 0, 1) := by decide +kernel
theorem dX12_easters_83 : decode cX12_easters 83 = .ok (.getfield 33, 3) := by decide +kernel
theorem dX12_easters_86 : decode cX12_easters 86 = .ok (.iload 6, 2) := by decide +kernel
theorem dX12_easters_88 : decode cX12_easters 88 = .ok (.invokestatic 121, 3) := by decide +kernel
theorem dX12_easters_91 : decode cX12_easters 91 = .ok (.ifCond .eq 13, 3) := by decide +kernel
theorem dX12_easters_94 : decode cX12_easters 94 = .ok (.aload_n 0, 1) := by decide +kernel
theorem dX12_easters_95 : decode cX12_easters 95 = .ok (.getfield 33, 3) := by decide +kernel
theorem dX12_easters_98 : decode cX12_easters 98 = .ok (.iload 6, 2) := by decide +kernel
theorem dX12_easters_100 : decode cX12_easters 100 = .ok (.iconst 1, 1) := by decide +kernel
theorem dX12_easters_101 : decode cX12_easters 101 = .ok (.invokestatic 128, 3) := by decide +kernel
theorem dX12_easters_104 : decode cX12_easters 104 = .ok (.aload_n 0, 1) := by decide +kernel
theorem dX12_easters_105 : decode cX12_easters 105 = .ok (.getfield 33, 3) := by decide +kernel
theorem dX12_easters_108 : decode cX12_easters 108 = .ok (.invokestatic 106, 3) := by decide +kernel
theorem dX12_easters_111 : decode cX12_easters 111 = .ok (.iinc 5 1, 3) := by decide +kernel
theorem dX12_easters_114 : decode cX12_easters 114 = .ok (.goto (-73), 3) := by decide +kernel
theorem dX12_easters_117 : decode cX12_easters 117 = .ok (.aload_n 0, 1) := by decide +kernel
theorem dX12_easters_118 : decode cX12_easters 118 = .ok (.getfield 33, 3) := by decide +kernel
theorem dX12_easters_121 : decode cX12_easters 121 = .ok (.bipush 20, 2) := by decide +kernel
theorem dX12_easters_123 : decode cX12_easters 123 = .ok (.iaload, 1) := by decide +kernel
theorem dX12_easters_124 : decode cX12_easters 124 = .ok (.invokestatic 163, 3) := by decide +kernel
theorem dX12_easters_127 : decode cX12_easters 127 = .ok (.ireturn, 1) := by decide +kernel
set_option maxRecDepth 20000 in
theorem ggX12_type_X12_in : GoodIn wsX12_type wsX12_in := goodIn_r _ [7] (by decide +kernel) (by decide +kernel)
set_option maxRecDepth 20000 in
theorem gX12_type_X12_in : GoodIn wsX12_type (va_wsS RX12 55 yX12_in wsX12_in) := goodIn_app (goodIn_of _ (by decide +kernel)) ggX12_type_X12_in
set_option maxRecDepth 20000 in
theorem ggX12_type_X12_bad : GoodIn wsX12_type wsX12_bad := goodIn_r _ [11, 12, 17, 18, 19, 20, 21, 22, 23, 24, 25, 26, 27, 28, 29, 30, 31, 32, 33, 34, 35] (by decide +kernel) (by decide +kernel)
set_option maxRecDepth 20000 in
theorem gX12_type_X12_bad : GoodIn wsX12_type (wsV RX12 71 RX12 yX12_bad wsX12_bad) := goodIn_app (goodIn_of _ (by decide +kernel)) ggX12_type_X12_bad
set_option maxRecDepth 20000 in
theorem ggX12_type_X12_full : GoodIn wsX12_type wsX12_full := goodIn_r _ [16, 12, 17, 18, 19, 20, 21, 22, 23, 24, 25, 26, 27, 28, 29, 30, 31, 32, 33, 34, 35] (by decide +kernel) (by decide +kernel)
set_option maxRecDepth 20000 in
theorem gX12_type_X12_full : GoodIn wsX12_type (wsV RX12 75 RX12 yX12_full wsX12_full) := goodIn_app (goodIn_of _ (by decide +kernel)) ggX12_type_X12_full
theorem dX12_type_0 : decode cX12_type 0 = .ok (.iload_n 1, 1) := by decide +kernel
theorem dX12_type_1 : decode cX12_type 1 = .ok (.i2l, 1) := by decide +kernel
theorem dX12_type_2 : decode cX12_type 2 = .ok (.lconst 0, 1) := by decide +kernel
theorem dX12_type_3 : decode cX12_type 3 = .ok (.ldc2_w 219, 3) := by decide +kernel
theorem dX12_type_6 : decode cX12_type 6 = .ok (.invokestatic 55, 3) := by decide +kernel
theorem dX12_type_9 : decode cX12_type 9 = .ok (.ifCond .ne 10, 3) := by decide +kernel
theorem dX12_type_12 : decode cX12_type 12 = .ok (.aload_n 0, 1) := by decide +kernel
theorem dX12_type_13 : decode cX12_type 13 = .ok (.bipush (-2), 2) := by decide +kernel
theorem dX12_type_15 : decode cX12_type 15 = .ok (.invokevirtual 71, 3) := by decide +kernel
theorem dX12_type_18 : decode cX12_type 18 = .ok (.ireturn, 1) := by decide +kernel
theorem dX12_type_19 : decode cX12_type 19 = .ok (.aload_n 0, 1) := by decide +kernel
theorem dX12_type_20 : decode cX12_type 20 = .ok (.getfield 221, 3) := by decide +kernel
theorem dX12_type_23 : decode cX12_type 23 = .ok (.sipush 150, 3) := by decide +kernel
theorem dX12_type_26 : decode cX12_type 26 = .ok (.if_icmp .ne 8, 3) := by decide +kernel
theorem dX12_type_29 : decode cX12_type 29 = .ok (.aload_n 0, 1) := by decide +kernel
theorem dX12_type_30 : decode cX12_type 30 = .ok (.invokevirtual 75, 3) := by decide +kernel
theorem dX12_type_33 : decode cX12_type 33 = .ok (.ireturn, 1) := by decide +kernel
theorem dX12_type_34 : decode cX12_type 34 = .ok (.aload_n 0, 1) := by decide +kernel
theorem dX12_type_35 : decode cX12_type 35 = .ok (.getfield 42, 3) := by decide +kernel
theorem dX12_type_38 : decode cX12_type 38 = .ok (.aload_n 0, 1) := by decide +kernel
theorem dX12_type_39 : decode cX12_type 39 = .ok (.getfield 221, 3) := by decide +kernel
theorem dX12_type_42 : decode cX12_type 42 = .ok (.iload_n 1, 1) := by decide +kernel
theorem dX12_type_43 : decode cX12_type 43 = .ok (.iastore, 1) := by decide +kernel
theorem dX12_type_44 : decode cX12_type 44 = .ok (.aload_n 0, 1) := by decide +kernel
theorem dX12_type_45 : decode cX12_type 45 = .ok (.dup, 1) := by decide +kernel
theorem dX12_type_46 : decode cX12_type 46 = .ok (.getfield 221, 3) := by decide +kernel
theorem dX12_type_49 : decode cX12_type 49 = .ok (.iconst 1, 1) := by decide +kernel
theorem dX12_type_50 : decode cX12_type 50 = .ok (.iadd, 1) := by decide +kernel
theorem dX12_type_51 : decode cX12_type 51 = .ok (.putfield 221, 3) := by decide +kernel
theorem dX12_type_54 : decode cX12_type 54 = .ok (.aload_n 0, 1) := by decide +kernel
theorem dX12_type_55 : decode cX12_type 55 = .ok (.getfield 221, 3) := by decide +kernel
theorem dX12_type_58 : decode cX12_type 58 = .ok (.ireturn, 1) := by decide +kernel
theorem dX12_clear_0 : decode cX12_clear 0 = .ok (.aload_n 0, 1) := by decide +kernel
theorem dX12_clear_1 : decode cX12_clear 1 = .ok (.getfield 221, 3) := by decide +kernel
theorem dX12_clear_4 : decode cX12_clear 4 = .ok (.istore_n 1, 1) := by decide +kernel
theorem dX12_clear_5 : decode cX12_clear 5 = .ok (.aload_n 0, 1) := by decide +kernel
theorem dX12_clear_6 : decode cX12_clear 6 = .ok (.iconst 0, 1) := by decide +kernel
theorem dX12_clear_7 : decode cX12_clear 7 = .ok (.putfield 221, 3) := by decide +kernel
theorem dX12_clear_10 : decode cX12_clear 10 = .ok (.iload_n 1, 1) := by decide +kernel
theorem dX12_clear_11 : decode cX12_clear 11 = .ok (.ireturn, 1) := by decide +kernel
set_option maxRecDepth 20000 in
theorem ggX12_isSmall_X12_in : GoodIn wsX12_isSmall wsX12_in := goodIn_r _ [6] (by decide +kernel) (by decide +kernel)
set_option maxRecDepth 20000 in
theorem gX12_isSmall_X12_in : GoodIn wsX12_isSmall (va_wsS RX12 55 yX12_in wsX12_in) := goodIn_app (goodIn_of _ (by decide +kernel)) ggX12_isSmall_X12_in
theorem dX12_isSmall_0 : decode cX12_isSmall 0 = .ok (.iload_n 0, 1) := by decide +kernel
theorem dX12_isSmall_1 : decode cX12_isSmall 1 = .ok (.i2l, 1) := by decide +kernel
theorem dX12_isSmall_2 : decode cX12_isSmall 2 = .ok (.ldc2_w 225, 3) := by decide +kernel
theorem dX12_isSmall_5 : decode cX12_isSmall 5 = .ok (.ldc2_w 227, 3) := by decide +kernel
theorem dX12_isSmall_8 : decode cX12_isSmall 8 = .ok (.invokestatic 55, 3) := by decide +kernel
theorem dX12_isSmall_11 : decode cX12_isSmall 11 = .ok (.ireturn, 1) := by decide +kernel
set_option maxRecDepth 20000 in
theorem ggX12_isFigure_X12_in : GoodIn wsX12_isFigure wsX12_in := goodIn_r _ [6] (by decide +kernel) (by decide +kernel)
set_option maxRecDepth 20000 in
theorem gX12_isFigure_X12_in : GoodIn wsX12_isFigure (va_wsS RX12 55 yX12_in wsX12_in) := goodIn_app (goodIn_of _ (by decide +kernel)) ggX12_isFigure_X12_in
theorem dX12_isFigure_0 : decode cX12_isFigure 0 = .ok (.iload_n 0, 1) := by decide +kernel
theorem dX12_isFigure_1 : decode cX12_isFigure 1 = .ok (.i2l, 1) := by decide +kernel
theorem dX12_isFigure_2 : decode cX12_isFigure 2 = .ok (.ldc2_w 229, 3) := by decide +kernel
theorem dX12_isFigure_5 : decode cX12_isFigure 5 = .ok (.ldc2_w 231, 3) := by decide +kernel
theorem dX12_isFigure_8 : decode cX12_isFigure 8 = .ok (.invokestatic 55, 3) := by decide +kernel
theorem dX12_isFigure_11 : decode cX12_isFigure 11 = .ok (.ireturn, 1) := by decide +kernel
set_option maxRecDepth 20000 in
theorem ggX12_lookAt_X12_isSmall : GoodIn wsX12_lookAt wsX12_isSmall := goodIn_r _ [10, 11, 12, 13, 14, 9, 15] (by decide +kernel) (by decide +kernel)
set_option maxRecDepth 20000 in
theorem gX12_lookAt_X12_isSmall : GoodIn wsX12_lookAt (va_wsS RX12 245 yX12_isSmall wsX12_isSmall) := goodIn_app (goodIn_of _ (by decide +kernel)) ggX12_lookAt_X12_isSmall
set_option maxRecDepth 20000 in
theorem ggX12_lookAt_X12_isFigure : GoodIn wsX12_lookAt wsX12_isFigure := goodIn_r _ [18, 19, 20, 13, 14, 9, 15] (by decide +kernel) (by decide +kernel)
set_option maxRecDepth 20000 in
theorem gX12_lookAt_X12_isFigure : GoodIn wsX12_lookAt (va_wsS RX12 248 yX12_isFigure wsX12_isFigure) := goodIn_app (goodIn_of _ (by decide +kernel)) ggX12_lookAt_X12_isFigure
theorem dX12_lookAt_0 : decode cX12_lookAt 0 = .ok (.aload_n 0, 1) := by decide +kernel
theorem dX12_lookAt_1 : decode cX12_lookAt 1 = .ok (.iload_n 1, 1) := by decide +kernel
theorem dX12_lookAt_2 : decode cX12_lookAt 2 = .ok (.putfield 233, 3) := by decide +kernel
theorem dX12_lookAt_5 : decode cX12_lookAt 5 = .ok (.aload_n 0, 1) := by decide +kernel
theorem dX12_lookAt_6 : decode cX12_lookAt 6 = .ok (.getfield 233, 3) := by decide +kernel
theorem dX12_lookAt_9 : decode cX12_lookAt 9 = .ok (.aload_n 0, 1) := by decide +kernel
theorem dX12_lookAt_10 : decode cX12_lookAt 10 = .ok (.getfield 221, 3) := by decide +kernel
theorem dX12_lookAt_13 : decode cX12_lookAt 13 = .ok (.if_icmp .ge 30, 3) := by decide +kernel
theorem dX12_lookAt_16 : decode cX12_lookAt 16 = .ok (.aload_n 0, 1) := by decide +kernel
theorem dX12_lookAt_17 : decode cX12_lookAt 17 = .ok (.getfield 42, 3) := by decide +kernel
theorem dX12_lookAt_20 : decode cX12_lookAt 20 = .ok (.aload_n 0, 1) := by decide +kernel
theorem dX12_lookAt_21 : decode cX12_lookAt 21 = .ok (.getfield 233, 3) := by decide +kernel
theorem dX12_lookAt_24 : decode cX12_lookAt 24 = .ok (.iaload, 1) := by decide +kernel
theorem dX12_lookAt_25 : decode cX12_lookAt 25 = .ok (.bipush 32, 2) := by decide +kernel
theorem dX12_lookAt_27 : decode cX12_lookAt 27 = .ok (.if_icmp .ne 16, 3) := by decide +kernel
theorem dX12_lookAt_30 : decode cX12_lookAt 30 = .ok (.aload_n 0, 1) := by decide +kernel
theorem dX12_lookAt_31 : decode cX12_lookAt 31 = .ok (.dup, 1) := by decide +kernel
theorem dX12_lookAt_32 : decode cX12_lookAt 32 = .ok (.getfield 233, 3) := by decide +kernel
theorem dX12_lookAt_35 : decode cX12_lookAt 35 = .ok (.iconst 1, 1) := by decide +kernel
theorem dX12_lookAt_36 : decode cX12_lookAt 36 = .ok (.iadd, 1) := by decide +kernel
theorem dX12_lookAt_37 : decode cX12_lookAt 37 = .ok (.putfield 233, 3) := by decide +kernel
theorem dX12_lookAt_40 : decode cX12_lookAt 40 = .ok (.goto (-35), 3) := by decide +kernel
theorem dX12_lookAt_43 : decode cX12_lookAt 43 = .ok (.aload_n 0, 1) := by decide +kernel
theorem dX12_lookAt_44 : decode cX12_lookAt 44 = .ok (.iconst 0, 1) := by decide +kernel
theorem dX12_lookAt_45 : decode cX12_lookAt 45 = .ok (.putfield 236, 3) := by decide +kernel
theorem dX12_lookAt_48 : decode cX12_lookAt 48 = .ok (.aload_n 0, 1) := by decide +kernel
theorem dX12_lookAt_49 : decode cX12_lookAt 49 = .ok (.iconst 0, 1) := by decide +kernel
theorem dX12_lookAt_50 : decode cX12_lookAt 50 = .ok (.putfield 239, 3) := by decide +kernel
theorem dX12_lookAt_53 : decode cX12_lookAt 53 = .ok (.aload_n 0, 1) := by decide +kernel
theorem dX12_lookAt_54 : decode cX12_lookAt 54 = .ok (.iconst 0, 1) := by decide +kernel
theorem dX12_lookAt_55 : decode cX12_lookAt 55 = .ok (.putfield 242, 3) := by decide +kernel
theorem dX12_lookAt_58 : decode cX12_lookAt 58 = .ok (.aload_n 0, 1) := by decide +kernel
theorem dX12_lookAt_59 : decode cX12_lookAt 59 = .ok (.getfield 233, 3) := by decide +kernel
theorem dX12_lookAt_62 : decode cX12_lookAt 62 = .ok (.aload_n 0, 1) := by decide +kernel
theorem dX12_lookAt_63 : decode cX12_lookAt 63 = .ok (.getfield 221, 3) := by decide +kernel
theorem dX12_lookAt_66 : decode cX12_lookAt 66 = .ok (.if_icmp .ne 4, 3) := by decide +kernel
theorem dX12_lookAt_69 : decode cX12_lookAt 69 = .ok (.return_, 1) := by decide +kernel
theorem dX12_lookAt_70 : decode cX12_lookAt 70 = .ok (.aload_n 0, 1) := by decide +kernel
theorem dX12_lookAt_71 : decode cX12_lookAt 71 = .ok (.getfield 42, 3) := by decide +kernel
theorem dX12_lookAt_74 : decode cX12_lookAt 74 = .ok (.aload_n 0, 1) := by decide +kernel
theorem dX12_lookAt_75 : decode cX12_lookAt 75 = .ok (.getfield 233, 3) := by decide +kernel
theorem dX12_lookAt_78 : decode cX12_lookAt 78 = .ok (.iaload, 1) := by decide +kernel
theorem dX12_lookAt_79 : decode cX12_lookAt 79 = .ok (.istore_n 2, 1) := by decide +kernel
theorem dX12_lookAt_80 : decode cX12_lookAt 80 = .ok (.aload_n 0, 1) := by decide +kernel
theorem dX12_lookAt_81 : decode cX12_lookAt 81 = .ok (.iload_n 2, 1) := by decide +kernel
theorem dX12_lookAt_82 : decode cX12_lookAt 82 = .ok (.invokestatic 245, 3) := by decide +kernel
theorem dX12_lookAt_85 : decode cX12_lookAt 85 = .ok (.ifCond .eq 7, 3) := by decide +kernel
theorem dX12_lookAt_88 : decode cX12_lookAt 88 = .ok (.iconst 1, 1) := by decide +kernel
theorem dX12_lookAt_89 : decode cX12_lookAt 89 = .ok (.goto 25, 3) := by decide +kernel
theorem dX12_lookAt_92 : decode cX12_lookAt 92 = .ok (.iload_n 2, 1) := by decide +kernel
theorem dX12_lookAt_93 : decode cX12_lookAt 93 = .ok (.invokestatic 248, 3) := by decide +kernel
theorem dX12_lookAt_96 : decode cX12_lookAt 96 = .ok (.ifCond .eq 7, 3) := by decide +kernel
theorem dX12_lookAt_99 : decode cX12_lookAt 99 = .ok (.iconst 2, 1) := by decide +kernel
theorem dX12_lookAt_100 : decode cX12_lookAt 100 = .ok (.goto 14, 3) := by decide +kernel
theorem dX12_lookAt_103 : decode cX12_lookAt 103 = .ok (.iload_n 2, 1) := by decide +kernel
theorem dX12_lookAt_104 : decode cX12_lookAt 104 = .ok (.bipush 59, 2) := by decide +kernel
theorem dX12_lookAt_106 : decode cX12_lookAt 106 = .ok (.if_icmp .ne 7, 3) := by decide +kernel
theorem dX12_lookAt_109 : decode cX12_lookAt 109 = .ok (.iconst 3, 1) := by decide +kernel
theorem dX12_lookAt_110 : decode cX12_lookAt 110 = .ok (.goto 4, 3) := by decide +kernel
theorem dX12_lookAt_113 : decode cX12_lookAt 113 = .ok (.iconst 4, 1) := by decide +kernel
theorem dX12_lookAt_114 : decode cX12_lookAt 114 = .ok (.putfield 239, 3) := by decide +kernel
theorem dX12_lookAt_117 : decode cX12_lookAt 117 = .ok (.aload_n 0, 1) := by decide +kernel
theorem dX12_lookAt_118 : decode cX12_lookAt 118 = .ok (.iconst 1, 1) := by decide +kernel
theorem dX12_lookAt_119 : decode cX12_lookAt 119 = .ok (.putfield 236, 3) := by decide +kernel
theorem dX12_lookAt_122 : decode cX12_lookAt 122 = .ok (.aload_n 0, 1) := by decide +kernel
theorem dX12_lookAt_123 : decode cX12_lookAt 123 = .ok (.getfield 239, 3) := by decide +kernel
theorem dX12_lookAt_126 : decode cX12_lookAt 126 = .ok (.iconst 3, 1) := by decide +kernel
theorem dX12_lookAt_127 : decode cX12_lookAt 127 = .ok (.if_icmp .ge 7, 3) := by decide +kernel
theorem dX12_lookAt_130 : decode cX12_lookAt 130 = .ok (.iconst 1, 1) := by decide +kernel
theorem dX12_lookAt_131 : decode cX12_lookAt 131 = .ok (.goto 4, 3) := by decide +kernel
theorem dX12_lookAt_134 : decode cX12_lookAt 134 = .ok (.iconst 0, 1) := by decide +kernel
theorem dX12_lookAt_135 : decode cX12_lookAt 135 = .ok (.istore_n 3, 1) := by decide +kernel
theorem dX12_lookAt_136 : decode cX12_lookAt 136 = .ok (.iload_n 3, 1) := by decide +kernel
theorem dX12_lookAt_137 : decode cX12_lookAt 137 = .ok (.ifCond .eq 78, 3) := by decide +kernel
theorem dX12_lookAt_140 : decode cX12_lookAt 140 = .ok (.aload_n 0, 1) := by decide +kernel
theorem dX12_lookAt_141 : decode cX12_lookAt 141 = .ok (.getfield 233, 3) := by decide +kernel
theorem dX12_lookAt_144 : decode cX12_lookAt 144 = .ok (.aload_n 0, 1) := by decide +kernel
theorem dX12_lookAt_145 : decode cX12_lookAt 145 = .ok (.getfield 236, 3) := by decide +kernel
theorem dX12_lookAt_148 : decode cX12_lookAt 148 = .ok (.iadd, 1) := by decide +kernel
theorem dX12_lookAt_149 : decode cX12_lookAt 149 = .ok (.aload_n 0, 1) := by decide +kernel
theorem dX12_lookAt_150 : decode cX12_lookAt 150 = .ok (.getfield 221, 3) := by decide +kernel
theorem dX12_lookAt_153 : decode cX12_lookAt 153 = .ok (.if_icmp .ge 62, 3) := by decide +kernel
theorem dX12_lookAt_156 : decode cX12_lookAt 156 = .ok (.aload_n 0, 1) := by decide +kernel
theorem dX12_lookAt_157 : decode cX12_lookAt 157 = .ok (.getfield 42, 3) := by decide +kernel
theorem dX12_lookAt_160 : decode cX12_lookAt 160 = .ok (.aload_n 0, 1) := by decide +kernel
theorem dX12_lookAt_161 : decode cX12_lookAt 161 = .ok (.getfield 233, 3) := by decide +kernel
theorem dX12_lookAt_164 : decode cX12_lookAt 164 = .ok (.aload_n 0, 1) := by decide +kernel
theorem dX12_lookAt_165 : decode cX12_lookAt 165 = .ok (.getfield 236, 3) := by decide +kernel
theorem dX12_lookAt_168 : decode cX12_lookAt 168 = .ok (.iadd, 1) := by decide +kernel
theorem dX12_lookAt_169 : decode cX12_lookAt 169 = .ok (.iaload, 1) := by decide +kernel
theorem dX12_lookAt_170 : decode cX12_lookAt 170 = .ok (.istore 4, 2) := by decide +kernel
theorem dX12_lookAt_172 : decode cX12_lookAt 172 = .ok (.aload_n 0, 1) := by decide +kernel
theorem dX12_lookAt_173 : decode cX12_lookAt 173 = .ok (.getfield 239, 3) := by decide +kernel
theorem dX12_lookAt_176 : decode cX12_lookAt 176 = .ok (.iconst 1, 1) := by decide +kernel
theorem dX12_lookAt_177 : decode cX12_lookAt 177 = .ok (.if_icmp .ne 11, 3) := by decide +kernel
theorem dX12_lookAt_180 : decode cX12_lookAt 180 = .ok (.iload 4, 2) := by decide +kernel
theorem dX12_lookAt_182 : decode cX12_lookAt 182 = .ok (.invokestatic 245, 3) := by decide +kernel
theorem dX12_lookAt_185 : decode cX12_lookAt 185 = .ok (.goto 8, 3) := by decide +kernel
theorem dX12_lookAt_188 : decode cX12_lookAt 188 = .ok (.iload 4, 2) := by decide +kernel
theorem dX12_lookAt_190 : decode cX12_lookAt 190 = .ok (.invokestatic 248, 3) := by decide +kernel
theorem dX12_lookAt_193 : decode cX12_lookAt 193 = .ok (.istore_n 3, 1) := by decide +kernel
theorem dX12_lookAt_194 : decode cX12_lookAt 194 = .ok (.aload_n 0, 1) := by decide +kernel
theorem dX12_lookAt_195 : decode cX12_lookAt 195 = .ok (.dup, 1) := by decide +kernel
theorem dX12_lookAt_196 : decode cX12_lookAt 196 = .ok (.getfield 236, 3) := by decide +kernel
theorem dX12_lookAt_199 : decode cX12_lookAt 199 = .ok (.iload_n 3, 1) := by decide +kernel
theorem dX12_lookAt_200 : decode cX12_lookAt 200 = .ok (.ifCond .eq 7, 3) := by decide +kernel
theorem dX12_lookAt_203 : decode cX12_lookAt 203 = .ok (.iconst 1, 1) := by decide +kernel
theorem dX12_lookAt_204 : decode cX12_lookAt 204 = .ok (.goto 4, 3) := by decide +kernel
theorem dX12_lookAt_207 : decode cX12_lookAt 207 = .ok (.iconst 0, 1) := by decide +kernel
theorem dX12_lookAt_208 : decode cX12_lookAt 208 = .ok (.iadd, 1) := by decide +kernel
theorem dX12_lookAt_209 : decode cX12_lookAt 209 = .ok (.putfield 236, 3) := by decide +kernel
theorem dX12_lookAt_212 : decode cX12_lookAt 212 = .ok (.goto (-76), 3) := by decide +kernel
theorem dX12_lookAt_215 : decode cX12_lookAt 215 = .ok (.iconst 0, 1) := by decide +kernel
theorem dX12_lookAt_216 : decode cX12_lookAt 216 = .ok (.istore 4, 2) := by decide +kernel
theorem dX12_lookAt_218 : decode cX12_lookAt 218 = .ok (.iload 4, 2) := by decide +kernel
theorem dX12_lookAt_220 : decode cX12_lookAt 220 = .ok (.aload_n 0, 1) := by decide +kernel
theorem dX12_lookAt_221 : decode cX12_lookAt 221 = .ok (.getfield 236, 3) := by decide +kernel
theorem dX12_lookAt_224 : decode cX12_lookAt 224 = .ok (.if_icmp .ge 50, 3) := by decide +kernel
theorem dX12_lookAt_227 : decode cX12_lookAt 227 = .ok (.iload 4, 2) := by decide +kernel
theorem dX12_lookAt_229 : decode cX12_lookAt 229 = .ok (.iconst 2, 1) := by decide +kernel
theorem dX12_lookAt_230 : decode cX12_lookAt 230 = .ok (.if_icmp .ge 44, 3) := by decide +kernel
theorem dX12_lookAt_233 : decode cX12_lookAt 233 = .ok (.aload_n 0, 1) := by decide +kernel
theorem dX12_lookAt_234 : decode cX12_lookAt 234 = .ok (.getfield 239, 3) := by decide +kernel
theorem dX12_lookAt_237 : decode cX12_lookAt 237 = .ok (.iconst 2, 1) := by decide +kernel
theorem dX12_lookAt_238 : decode cX12_lookAt 238 = .ok (.if_icmp .ne 36, 3) := by decide +kernel
theorem dX12_lookAt_241 : decode cX12_lookAt 241 = .ok (.aload_n 0, 1) := by decide +kernel
theorem dX12_lookAt_242 : decode cX12_lookAt 242 = .ok (.bipush 10, 2) := by decide +kernel
theorem dX12_lookAt_244 : decode cX12_lookAt 244 = .ok (.aload_n 0, 1) := by decide +kernel
theorem dX12_lookAt_245 : decode cX12_lookAt 245 = .ok (.getfield 242, 3) := by decide +kernel
theorem dX12_lookAt_248 : decode cX12_lookAt 248 = .ok (.imul, 1) := by decide +kernel
theorem dX12_lookAt_249 : decode cX12_lookAt 249 = .ok (.aload_n 0, 1) := by decide +kernel
theorem dX12_lookAt_250 : decode cX12_lookAt 250 = .ok (.getfield 42, 3) := by decide +kernel
theorem dX12_lookAt_253 : decode cX12_lookAt 253 = .ok (.aload_n 0, 1) := by decide +kernel
theorem dX12_lookAt_254 : decode cX12_lookAt 254 = .ok (.getfield 233, 3) := by decide +kernel
theorem dX12_lookAt_257 : decode cX12_lookAt 257 = .ok (.iload 4, 2) := by decide +kernel
theorem dX12_lookAt_259 : decode cX12_lookAt 259 = .ok (.iadd, 1) := by decide +kernel
theorem dX12_lookAt_260 : decode cX12_lookAt 260 = .ok (.iaload, 1) := by decide +kernel
theorem dX12_lookAt_261 : decode cX12_lookAt 261 = .ok (.iadd, 1) := by decide +kernel
theorem dX12_lookAt_262 : decode cX12_lookAt 262 = .ok (.bipush 48, 2) := by decide +kernel
theorem dX12_lookAt_264 : decode cX12_lookAt 264 = .ok (.isub, 1) := by decide +kernel
theorem dX12_lookAt_265 : decode cX12_lookAt 265 = .ok (.putfield 242, 3) := by decide +kernel
theorem dX12_lookAt_268 : decode cX12_lookAt 268 = .ok (.iinc 4 1, 3) := by decide +kernel
theorem dX12_lookAt_271 : decode cX12_lookAt 271 = .ok (.goto (-53), 3) := by decide +kernel
theorem dX12_lookAt_274 : decode cX12_lookAt 274 = .ok (.aload_n 0, 1) := by decide +kernel
theorem dX12_lookAt_275 : decode cX12_lookAt 275 = .ok (.aload_n 0, 1) := by decide +kernel
theorem dX12_lookAt_276 : decode cX12_lookAt 276 = .ok (.getfield 239, 3) := by decide +kernel
theorem dX12_lookAt_279 : decode cX12_lookAt 279 = .ok (.iconst 2, 1) := by decide +kernel
theorem dX12_lookAt_280 : decode cX12_lookAt 280 = .ok (.if_icmp .ne 15, 3) := by decide +kernel
theorem dX12_lookAt_283 : decode cX12_lookAt 283 = .ok (.aload_n 0, 1) := by decide +kernel
theorem dX12_lookAt_284 : decode cX12_lookAt 284 = .ok (.getfield 236, 3) := by decide +kernel
theorem dX12_lookAt_287 : decode cX12_lookAt 287 = .ok (.iconst 2, 1) := by decide +kernel
theorem dX12_lookAt_288 : decode cX12_lookAt 288 = .ok (.if_icmp .le 7, 3) := by decide +kernel
theorem dX12_lookAt_291 : decode cX12_lookAt 291 = .ok (.iconst 4, 1) := by decide +kernel
theorem dX12_lookAt_292 : decode cX12_lookAt 292 = .ok (.goto 7, 3) := by decide +kernel
theorem dX12_lookAt_295 : decode cX12_lookAt 295 = .ok (.aload_n 0, 1) := by decide +kernel
theorem dX12_lookAt_296 : decode cX12_lookAt 296 = .ok (.getfield 239, 3) := by decide +kernel
theorem dX12_lookAt_299 : decode cX12_lookAt 299 = .ok (.putfield 239, 3) := by decide +kernel
theorem dX12_lookAt_302 : decode cX12_lookAt 302 = .ok (.return_, 1) := by decide +kernel
set_option maxRecDepth 20000 in
theorem ggX12_goBehind_X12_lookAt : GoodIn wsX12_goBehind wsX12_lookAt := goodIn_r _ [7, 1, 8, 9, 2, 10, 11, 12, 13, 6, 14, 15, 16, 17, 18, 19, 20, 21, 22, 23, 24, 25, 26, 27, 28, 29, 30, 31, 32, 33, 34, 35, 36, 37, 38, 39, 40, 41, 42, 43] (by decide +kernel) (by decide +kernel)
set_option maxRecDepth 20000 in
theorem gX12_goBehind_X12_lookAt : GoodIn wsX12_goBehind (wsV RX12 251 RX12 yX12_lookAt wsX12_lookAt) := goodIn_app (goodIn_of _ (by decide +kernel)) ggX12_goBehind_X12_lookAt
theorem dX12_goBehind_0 : decode cX12_goBehind 0 = .ok (.aload_n 0, 1) := by decide +kernel
theorem dX12_goBehind_1 : decode cX12_goBehind 1 = .ok (.aload_n 0, 1) := by decide +kernel
theorem dX12_goBehind_2 : decode cX12_goBehind 2 = .ok (.getfield 233, 3) := by decide +kernel
theorem dX12_goBehind_5 : decode cX12_goBehind 5 = .ok (.aload_n 0, 1) := by decide +kernel
theorem dX12_goBehind_6 : decode cX12_goBehind 6 = .ok (.getfield 236, 3) := by decide +kernel
theorem dX12_goBehind_9 : decode cX12_goBehind 9 = .ok (.iadd, 1) := by decide +kernel
theorem dX12_goBehind_10 : decode cX12_goBehind 10 = .ok (.invokevirtual 251, 3) := by decide +kernel
theorem dX12_goBehind_13 : decode cX12_goBehind 13 = .ok (.return_, 1) := by decide +kernel
theorem dX12_spells_0 : decode cX12_spells 0 = .ok (.aload_n 0, 1) := by decide +kernel
theorem dX12_spells_1 : decode cX12_spells 1 = .ok (.getfield 239, 3) := by decide +kernel
theorem dX12_spells_4 : decode cX12_spells 4 = .ok (.iconst 1, 1) := by decide +kernel
theorem dX12_spells_5 : decode cX12_spells 5 = .ok (.if_icmp .ne 15, 3) := by decide +kernel
theorem dX12_spells_8 : decode cX12_spells 8 = .ok (.aload_n 0, 1) := by decide +kernel
theorem dX12_spells_9 : decode cX12_spells 9 = .ok (.getfield 236, 3) := by decide +kernel
theorem dX12_spells_12 : decode cX12_spells 12 = .ok (.iload_n 1, 1) := by decide +kernel
theorem dX12_spells_13 : decode cX12_spells 13 = .ok (.if_icmp .ne 7, 3) := by decide +kernel
theorem dX12_spells_16 : decode cX12_spells 16 = .ok (.iconst 1, 1) := by decide +kernel
theorem dX12_spells_17 : decode cX12_spells 17 = .ok (.goto 4, 3) := by decide +kernel
theorem dX12_spells_20 : decode cX12_spells 20 = .ok (.iconst 0, 1) := by decide +kernel
theorem dX12_spells_21 : decode cX12_spells 21 = .ok (.istore 8, 2) := by decide +kernel
theorem dX12_spells_23 : decode cX12_spells 23 = .ok (.iconst 0, 1) := by decide +kernel
theorem dX12_spells_24 : decode cX12_spells 24 = .ok (.istore 9, 2) := by decide +kernel
theorem dX12_spells_26 : decode cX12_spells 26 = .ok (.iload 9, 2) := by decide +kernel
theorem dX12_spells_28 : decode cX12_spells 28 = .ok (.iload_n 1, 1) := by decide +kernel
theorem dX12_spells_29 : decode cX12_spells 29 = .ok (.if_icmp .ge 90, 3) := by decide +kernel
theorem dX12_spells_32 : decode cX12_spells 32 = .ok (.iload 8, 2) := by decide +kernel
theorem dX12_spells_34 : decode cX12_spells 34 = .ok (.ifCond .eq 85, 3) := by decide +kernel
theorem dX12_spells_37 : decode cX12_spells 37 = .ok (.aload_n 0, 1) := by decide +kernel
theorem dX12_spells_38 : decode cX12_spells 38 = .ok (.getfield 42, 3) := by decide +kernel
theorem dX12_spells_41 : decode cX12_spells 41 = .ok (.aload_n 0, 1) := by decide +kernel
theorem dX12_spells_42 : decode cX12_spells 42 = .ok (.getfield 233, 3) := by decide +kernel
theorem dX12_spells_45 : decode cX12_spells 45 = .ok (.iload 9, 2) := by decide +kernel
theorem dX12_spells_47 : decode cX12_spells 47 = .ok (.iadd, 1) := by decide +kernel
theorem dX12_spells_48 : decode cX12_spells 48 = .ok (.iaload, 1) := by decide +kernel
theorem dX12_spells_49 : decode cX12_spells 49 = .ok (.iload 9, 2) := by decide +kernel
theorem dX12_spells_51 : decode cX12_spells 51 = .ok (.ifCond .ne 7, 3) := by decide +kernel
theorem dX12_spells_54 : decode cX12_spells 54 = .ok (.iload_n 2, 1) := by decide +kernel
theorem dX12_spells_55 : decode cX12_spells 55 = .ok (.goto 48, 3) := by decide +kernel
theorem dX12_spells_58 : decode cX12_spells 58 = .ok (.iload 9, 2) := by decide +kernel
theorem dX12_spells_60 : decode cX12_spells 60 = .ok (.iconst 1, 1) := by decide +kernel
theorem dX12_spells_61 : decode cX12_spells 61 = .ok (.if_icmp .ne 7, 3) := by decide +kernel
theorem dX12_spells_64 : decode cX12_spells 64 = .ok (.iload_n 3, 1) := by decide +kernel
theorem dX12_spells_65 : decode cX12_spells 65 = .ok (.goto 38, 3) := by decide +kernel
theorem dX12_spells_68 : decode cX12_spells 68 = .ok (.iload 9, 2) := by decide +kernel
theorem dX12_spells_70 : decode cX12_spells 70 = .ok (.iconst 2, 1) := by decide +kernel
theorem dX12_spells_71 : decode cX12_spells 71 = .ok (.if_icmp .ne 8, 3) := by decide +kernel
theorem dX12_spells_74 : decode cX12_spells 74 = .ok (.iload 4, 2) := by decide +kernel
theorem dX12_spells_76 : decode cX12_spells 76 = .ok (.goto 27, 3) := by decide +kernel
theorem dX12_spells_79 : decode cX12_spells 79 = .ok (.iload 9, 2) := by decide +kernel
theorem dX12_spells_81 : decode cX12_spells 81 = .ok (.iconst 3, 1) := by decide +kernel
theorem dX12_spells_82 : decode cX12_spells 82 = .ok (.if_icmp .ne 8, 3) := by decide +kernel
theorem dX12_spells_85 : decode cX12_spells 85 = .ok (.iload 5, 2) := by decide +kernel
theorem dX12_spells_87 : decode cX12_spells 87 = .ok (.goto 16, 3) := by decide +kernel
theorem dX12_spells_90 : decode cX12_spells 90 = .ok (.iload 9, 2) := by decide +kernel
theorem dX12_spells_92 : decode cX12_spells 92 = .ok (.iconst 4, 1) := by decide +kernel
theorem dX12_spells_93 : decode cX12_spells 93 = .ok (.if_icmp .ne 8, 3) := by decide +kernel
theorem dX12_spells_96 : decode cX12_spells 96 = .ok (.iload 6, 2) := by decide +kernel
theorem dX12_spells_98 : decode cX12_spells 98 = .ok (.goto 5, 3) := by decide +kernel
theorem dX12_spells_101 : decode cX12_spells 101 = .ok (.iload 7, 2) := by decide +kernel
theorem dX12_spells_103 : decode cX12_spells 103 = .ok (.if_icmp .ne 7, 3) := by decide +kernel
theorem dX12_spells_106 : decode cX12_spells 106 = .ok (.iconst 1, 1) := by decide +kernel
theorem dX12_spells_107 : decode cX12_spells 107 = .ok (.goto 4, 3) := by decide +kernel
theorem dX12_spells_110 : decode cX12_spells 110 = .ok (.iconst 0, 1) := by decide +kernel
theorem dX12_spells_111 : decode cX12_spells 111 = .ok (.istore 8, 2) := by decide +kernel
theorem dX12_spells_113 : decode cX12_spells 113 = .ok (.iinc 9 1, 3) := by decide +kernel
theorem dX12_spells_116 : decode cX12_spells 116 = .ok (.goto (-90), 3) := by decide +kernel
theorem dX12_spells_119 : decode cX12_spells 119 = .ok (.iload 8, 2) := by decide +kernel
theorem dX12_spells_121 : decode cX12_spells 121 = .ok (.ireturn, 1) := by decide +kernel
set_option maxRecDepth 20000 in
theorem ggX12_gives_X12_in : GoodIn wsX12_gives wsX12_in := goodIn_r _ [7] (by decide +kernel) (by decide +kernel)
set_option maxRecDepth 20000 in
theorem gX12_gives_X12_in : GoodIn wsX12_gives (va_wsS RX12 55 yX12_in wsX12_in) := goodIn_app (goodIn_of _ (by decide +kernel)) ggX12_gives_X12_in
set_option maxRecDepth 20000 in
theorem ggX12_gives_X12_goBehind : GoodIn wsX12_gives wsX12_goBehind := goodIn_r _ [11, 12, 13, 14, 15, 16, 6, 17, 18, 19, 1, 2, 20, 21, 22, 23, 24, 4, 5, 7, 25, 26, 27, 28, 29, 30, 31, 32, 33, 34, 35, 36, 37, 38, 39, 40, 41, 42, 43, 44, 45, 46, 47, 48] (by decide +kernel) (by decide +kernel)
set_option maxRecDepth 20000 in
theorem gX12_gives_X12_goBehind : GoodIn wsX12_gives (wsV RX12 255 RX12 yX12_goBehind wsX12_goBehind) := goodIn_app (goodIn_of _ (by decide +kernel)) ggX12_gives_X12_goBehind
theorem dX12_gives_0 : decode cX12_gives 0 = .ok (.aload_n 0, 1) := by decide +kernel
theorem dX12_gives_1 : decode cX12_gives 1 = .ok (.getfield 239, 3) := by decide +kernel
theorem dX12_gives_4 : decode cX12_gives 4 = .ok (.iconst 2, 1) := by decide +kernel
theorem dX12_gives_5 : decode cX12_gives 5 = .ok (.if_icmp .ne 18, 3) := by decide +kernel
theorem dX12_gives_8 : decode cX12_gives 8 = .ok (.aload_n 0, 1) := by decide +kernel
theorem dX12_gives_9 : decode cX12_gives 9 = .ok (.getfield 242, 3) := by decide +kernel
theorem dX12_gives_12 : decode cX12_gives 12 = .ok (.i2l, 1) := by decide +kernel
theorem dX12_gives_13 : decode cX12_gives 13 = .ok (.iload_n 2, 1) := by decide +kernel
theorem dX12_gives_14 : decode cX12_gives 14 = .ok (.i2l, 1) := by decide +kernel
theorem dX12_gives_15 : decode cX12_gives 15 = .ok (.iload_n 3, 1) := by decide +kernel
theorem dX12_gives_16 : decode cX12_gives 16 = .ok (.i2l, 1) := by decide +kernel
theorem dX12_gives_17 : decode cX12_gives 17 = .ok (.invokestatic 55, 3) := by decide +kernel
theorem dX12_gives_20 : decode cX12_gives 20 = .ok (.ifCond .ne 5, 3) := by decide +kernel
theorem dX12_gives_23 : decode cX12_gives 23 = .ok (.iconst 0, 1) := by decide +kernel
theorem dX12_gives_24 : decode cX12_gives 24 = .ok (.ireturn, 1) := by decide +kernel
theorem dX12_gives_25 : decode cX12_gives 25 = .ok (.aload_n 0, 1) := by decide +kernel
theorem dX12_gives_26 : decode cX12_gives 26 = .ok (.getfield 48, 3) := by decide +kernel
theorem dX12_gives_29 : decode cX12_gives 29 = .ok (.iload_n 1, 1) := by decide +kernel
theorem dX12_gives_30 : decode cX12_gives 30 = .ok (.aload_n 0, 1) := by decide +kernel
theorem dX12_gives_31 : decode cX12_gives 31 = .ok (.getfield 242, 3) := by decide +kernel
theorem dX12_gives_34 : decode cX12_gives 34 = .ok (.iastore, 1) := by decide +kernel
theorem dX12_gives_35 : decode cX12_gives 35 = .ok (.aload_n 0, 1) := by decide +kernel
theorem dX12_gives_36 : decode cX12_gives 36 = .ok (.invokevirtual 255, 3) := by decide +kernel
theorem dX12_gives_39 : decode cX12_gives 39 = .ok (.iconst 1, 1) := by decide +kernel
theorem dX12_gives_40 : decode cX12_gives 40 = .ok (.ireturn, 1) := by decide +kernel
set_option maxRecDepth 20000 in
theorem ggX12_givesOne_X12_goBehind : GoodIn wsX12_givesOne wsX12_goBehind := goodIn_r _ [7, 8, 9, 10, 11, 12, 6, 13, 14, 15, 16, 17, 18, 19, 20, 21, 22, 23, 24, 25, 26, 27, 28, 29, 30, 35, 36, 37, 38, 39, 40, 41, 42, 43, 44, 45, 46, 47, 48, 49, 50, 51, 52, 53] (by decide +kernel) (by decide +kernel)
set_option maxRecDepth 20000 in
theorem gX12_givesOne_X12_goBehind : GoodIn wsX12_givesOne (wsV RX12 255 RX12 yX12_goBehind wsX12_goBehind) := goodIn_app (goodIn_of _ (by decide +kernel)) ggX12_givesOne_X12_goBehind
set_option maxRecDepth 20000 in
theorem ggX12_givesOne_X12_gives : GoodIn wsX12_givesOne wsX12_gives := goodIn_r _ [34, 16, 17, 2, 23, 24, 6, 25, 3, 4, 5, 7, 8, 9, 10, 11, 12, 13, 14, 15, 18, 19, 20, 21, 22, 26, 27, 28, 29, 30, 35, 36, 37, 38, 39, 40, 41, 42, 43, 44, 45, 46, 47, 48, 49, 50, 51, 52, 53] (by decide +kernel) (by decide +kernel)
set_option maxRecDepth 20000 in
theorem gX12_givesOne_X12_gives : GoodIn wsX12_givesOne (wsV RX12 258 RX12 yX12_gives wsX12_gives) := goodIn_app (goodIn_of _ (by decide +kernel)) ggX12_givesOne_X12_gives
theorem dX12_givesOne_0 : decode cX12_givesOne 0 = .ok (.aload_n 0, 1) := by decide +kernel
theorem dX12_givesOne_1 : decode cX12_givesOne 1 = .ok (.getfield 45, 3) := by decide +kernel
theorem dX12_givesOne_4 : decode cX12_givesOne 4 = .ok (.iconst 0, 1) := by decide +kernel
theorem dX12_givesOne_5 : decode cX12_givesOne 5 = .ok (.iaload, 1) := by decide +kernel
theorem dX12_givesOne_6 : decode cX12_givesOne 6 = .ok (.bipush 6, 2) := by decide +kernel
theorem dX12_givesOne_8 : decode cX12_givesOne 8 = .ok (.if_icmp .ne 5, 3) := by decide +kernel
theorem dX12_givesOne_11 : decode cX12_givesOne 11 = .ok (.iconst 0, 1) := by decide +kernel
theorem dX12_givesOne_12 : decode cX12_givesOne 12 = .ok (.ireturn, 1) := by decide +kernel
theorem dX12_givesOne_13 : decode cX12_givesOne 13 = .ok (.aload_n 0, 1) := by decide +kernel
theorem dX12_givesOne_14 : decode cX12_givesOne 14 = .ok (.invokevirtual 255, 3) := by decide +kernel
theorem dX12_givesOne_17 : decode cX12_givesOne 17 = .ok (.aload_n 0, 1) := by decide +kernel
theorem dX12_givesOne_18 : decode cX12_givesOne 18 = .ok (.iconst 0, 1) := by decide +kernel
theorem dX12_givesOne_19 : decode cX12_givesOne 19 = .ok (.iconst 0, 1) := by decide +kernel
theorem dX12_givesOne_20 : decode cX12_givesOne 20 = .ok (.iconst 5, 1) := by decide +kernel
theorem dX12_givesOne_21 : decode cX12_givesOne 21 = .ok (.invokevirtual 258, 3) := by decide +kernel
theorem dX12_givesOne_24 : decode cX12_givesOne 24 = .ok (.ifCond .ne 5, 3) := by decide +kernel
theorem dX12_givesOne_27 : decode cX12_givesOne 27 = .ok (.iconst 0, 1) := by decide +kernel
theorem dX12_givesOne_28 : decode cX12_givesOne 28 = .ok (.ireturn, 1) := by decide +kernel
theorem dX12_givesOne_29 : decode cX12_givesOne 29 = .ok (.aload_n 0, 1) := by decide +kernel
theorem dX12_givesOne_30 : decode cX12_givesOne 30 = .ok (.getfield 45, 3) := by decide +kernel
theorem dX12_givesOne_33 : decode cX12_givesOne 33 = .ok (.bipush 22, 2) := by decide +kernel
theorem dX12_givesOne_35 : decode cX12_givesOne 35 = .ok (.aload_n 0, 1) := by decide +kernel
theorem dX12_givesOne_36 : decode cX12_givesOne 36 = .ok (.getfield 45, 3) := by decide +kernel
theorem dX12_givesOne_39 : decode cX12_givesOne 39 = .ok (.iconst 0, 1) := by decide +kernel
theorem dX12_givesOne_40 : decode cX12_givesOne 40 = .ok (.iaload, 1) := by decide +kernel
theorem dX12_givesOne_41 : decode cX12_givesOne 41 = .ok (.iadd, 1) := by decide +kernel
theorem dX12_givesOne_42 : decode cX12_givesOne 42 = .ok (.aload_n 0, 1) := by decide +kernel
theorem dX12_givesOne_43 : decode cX12_givesOne 43 = .ok (.getfield 48, 3) := by decide +kernel
theorem dX12_givesOne_46 : decode cX12_givesOne 46 = .ok (.iconst 0, 1) := by decide +kernel
theorem dX12_givesOne_47 : decode cX12_givesOne 47 = .ok (.iaload, 1) := by decide +kernel
theorem dX12_givesOne_48 : decode cX12_givesOne 48 = .ok (.iastore, 1) := by decide +kernel
theorem dX12_givesOne_49 : decode cX12_givesOne 49 = .ok (.aload_n 0, 1) := by decide +kernel
theorem dX12_givesOne_50 : decode cX12_givesOne 50 = .ok (.getfield 45, 3) := by decide +kernel
theorem dX12_givesOne_53 : decode cX12_givesOne 53 = .ok (.iconst 0, 1) := by decide +kernel
theorem dX12_givesOne_54 : decode cX12_givesOne 54 = .ok (.dup2, 1) := by decide +kernel
theorem dX12_givesOne_55 : decode cX12_givesOne 55 = .ok (.iaload, 1) := by decide +kernel
theorem dX12_givesOne_56 : decode cX12_givesOne 56 = .ok (.iconst 1, 1) := by decide +kernel
theorem dX12_givesOne_57 : decode cX12_givesOne 57 = .ok (.iadd, 1) := by decide +kernel
theorem dX12_givesOne_58 : decode cX12_givesOne 58 = .ok (.iastore, 1) := by decide +kernel
theorem dX12_givesOne_59 : decode cX12_givesOne 59 = .ok (.iconst 1, 1) := by decide +kernel
theorem dX12_givesOne_60 : decode cX12_givesOne 60 = .ok (.ireturn, 1) := by decide +kernel
set_option maxRecDepth 20000 in
theorem ggX12_givesWrong_X12_goBehind : GoodIn wsX12_givesWrong wsX12_goBehind := goodIn_r _ [9, 10, 11, 12, 13, 14, 8, 15, 16, 17, 2, 3, 18, 19, 20, 21, 22, 23, 24, 25, 26, 27, 28, 29, 30, 38, 39, 40, 41, 42, 43, 44, 45, 46, 47, 48, 49, 50, 51, 52, 53, 54, 55, 56] (by decide +kernel) (by decide +kernel)
set_option maxRecDepth 20000 in
theorem gX12_givesWrong_X12_goBehind : GoodIn wsX12_givesWrong (wsV RX12 255 RX12 yX12_goBehind wsX12_goBehind) := goodIn_app (goodIn_of _ (by decide +kernel)) ggX12_givesWrong_X12_goBehind
set_option maxRecDepth 20000 in
theorem ggX12_givesWrong_X12_gives : GoodIn wsX12_givesWrong wsX12_gives := goodIn_r _ [34, 2, 3, 4, 23, 24, 8, 25, 5, 6, 7, 9, 10, 11, 12, 13, 14, 15, 16, 17, 18, 19, 20, 21, 22, 26, 27, 28, 29, 30, 38, 39, 40, 41, 42, 43, 44, 45, 46, 47, 48, 49, 50, 51, 52, 53, 54, 55, 56] (by decide +kernel) (by decide +kernel)
set_option maxRecDepth 20000 in
theorem gX12_givesWrong_X12_gives : GoodIn wsX12_givesWrong (wsV RX12 258 RX12 yX12_gives wsX12_gives) := goodIn_app (goodIn_of _ (by decide +kernel)) ggX12_givesWrong_X12_gives
set_option maxRecDepth 20000 in
theorem ggX12_givesWrong_X12_layWrong : GoodIn wsX12_givesWrong wsX12_layWrong := goodIn_r _ [37] (by decide +kernel) (by decide +kernel)
set_option maxRecDepth 20000 in
theorem gX12_givesWrong_X12_layWrong : GoodIn wsX12_givesWrong (va_wsS RX12 84 yX12_layWrong wsX12_layWrong) := goodIn_app (goodIn_of _ (by decide +kernel)) ggX12_givesWrong_X12_layWrong
theorem dX12_givesWrong_0 : decode cX12_givesWrong 0 = .ok (.aload_n 0, 1) := by decide +kernel
theorem dX12_givesWrong_1 : decode cX12_givesWrong 1 = .ok (.getfield 45, 3) := by decide +kernel
theorem dX12_givesWrong_4 : decode cX12_givesWrong 4 = .ok (.iconst 1, 1) := by decide +kernel
theorem dX12_givesWrong_5 : decode cX12_givesWrong 5 = .ok (.iaload, 1) := by decide +kernel
theorem dX12_givesWrong_6 : decode cX12_givesWrong 6 = .ok (.bipush 8, 2) := by decide +kernel
theorem dX12_givesWrong_8 : decode cX12_givesWrong 8 = .ok (.if_icmp .ne 5, 3) := by decide +kernel
theorem dX12_givesWrong_11 : decode cX12_givesWrong 11 = .ok (.iconst 0, 1) := by decide +kernel
theorem dX12_givesWrong_12 : decode cX12_givesWrong 12 = .ok (.ireturn, 1) := by decide +kernel
theorem dX12_givesWrong_13 : decode cX12_givesWrong 13 = .ok (.aload_n 0, 1) := by decide +kernel
theorem dX12_givesWrong_14 : decode cX12_givesWrong 14 = .ok (.invokevirtual 255, 3) := by decide +kernel
theorem dX12_givesWrong_17 : decode cX12_givesWrong 17 = .ok (.aload_n 0, 1) := by decide +kernel
theorem dX12_givesWrong_18 : decode cX12_givesWrong 18 = .ok (.iconst 0, 1) := by decide +kernel
theorem dX12_givesWrong_19 : decode cX12_givesWrong 19 = .ok (.iconst 0, 1) := by decide +kernel
theorem dX12_givesWrong_20 : decode cX12_givesWrong 20 = .ok (.iconst 5, 1) := by decide +kernel
theorem dX12_givesWrong_21 : decode cX12_givesWrong 21 = .ok (.invokevirtual 258, 3) := by decide +kernel
theorem dX12_givesWrong_24 : decode cX12_givesWrong 24 = .ok (.ifCond .eq 69, 3) := by decide +kernel
theorem dX12_givesWrong_27 : decode cX12_givesWrong 27 = .ok (.aload_n 0, 1) := by decide +kernel
theorem dX12_givesWrong_28 : decode cX12_givesWrong 28 = .ok (.iconst 1, 1) := by decide +kernel
theorem dX12_givesWrong_29 : decode cX12_givesWrong 29 = .ok (.iconst 0, 1) := by decide +kernel
theorem dX12_givesWrong_30 : decode cX12_givesWrong 30 = .ok (.aload_n 0, 1) := by decide +kernel
theorem dX12_givesWrong_31 : decode cX12_givesWrong 31 = .ok (.getfield 45, 3) := by decide +kernel
theorem dX12_givesWrong_34 : decode cX12_givesWrong 34 = .ok (.iconst 0, 1) := by decide +kernel
theorem dX12_givesWrong_35 : decode cX12_givesWrong 35 = .ok (.iaload, 1) := by decide +kernel
theorem dX12_givesWrong_36 : decode cX12_givesWrong 36 = .ok (.iconst 1, 1) := by decide +kernel
theorem dX12_givesWrong_37 : decode cX12_givesWrong 37 = .ok (.isub, 1) := by decide +kernel
theorem dX12_givesWrong_38 : decode cX12_givesWrong 38 = .ok (.invokevirtual 258, 3) := by decide +kernel
theorem dX12_givesWrong_41 : decode cX12_givesWrong 41 = .ok (.ifCond .eq 52, 3) := by decide +kernel
theorem dX12_givesWrong_44 : decode cX12_givesWrong 44 = .ok (.aload_n 0, 1) := by decide +kernel
theorem dX12_givesWrong_45 : decode cX12_givesWrong 45 = .ok (.getfield 239, 3) := by decide +kernel
theorem dX12_givesWrong_48 : decode cX12_givesWrong 48 = .ok (.iconst 2, 1) := by decide +kernel
theorem dX12_givesWrong_49 : decode cX12_givesWrong 49 = .ok (.if_icmp .ne 44, 3) := by decide +kernel
theorem dX12_givesWrong_52 : decode cX12_givesWrong 52 = .ok (.aload_n 0, 1) := by decide +kernel
theorem dX12_givesWrong_53 : decode cX12_givesWrong 53 = .ok (.getfield 242, 3) := by decide +kernel
theorem dX12_givesWrong_56 : decode cX12_givesWrong 56 = .ok (.aload_n 0, 1) := by decide +kernel
theorem dX12_givesWrong_57 : decode cX12_givesWrong 57 = .ok (.getfield 48, 3) := by decide +kernel
theorem dX12_givesWrong_60 : decode cX12_givesWrong 60 = .ok (.iconst 1, 1) := by decide +kernel
theorem dX12_givesWrong_61 : decode cX12_givesWrong 61 = .ok (.iaload, 1) := by decide +kernel
theorem dX12_givesWrong_62 : decode cX12_givesWrong 62 = .ok (.if_icmp .eq 31, 3) := by decide +kernel
theorem dX12_givesWrong_65 : decode cX12_givesWrong 65 = .ok (.aload_n 0, 1) := by decide +kernel
theorem dX12_givesWrong_66 : decode cX12_givesWrong 66 = .ok (.iconst 2, 1) := by decide +kernel
theorem dX12_givesWrong_67 : decode cX12_givesWrong 67 = .ok (.iconst 0, 1) := by decide +kernel
theorem dX12_givesWrong_68 : decode cX12_givesWrong 68 = .ok (.aload_n 0, 1) := by decide +kernel
theorem dX12_givesWrong_69 : decode cX12_givesWrong 69 = .ok (.getfield 45, 3) := by decide +kernel
theorem dX12_givesWrong_72 : decode cX12_givesWrong 72 = .ok (.iconst 0, 1) := by decide +kernel
theorem dX12_givesWrong_73 : decode cX12_givesWrong 73 = .ok (.iaload, 1) := by decide +kernel
theorem dX12_givesWrong_74 : decode cX12_givesWrong 74 = .ok (.iconst 1, 1) := by decide +kernel
theorem dX12_givesWrong_75 : decode cX12_givesWrong 75 = .ok (.isub, 1) := by decide +kernel
theorem dX12_givesWrong_76 : decode cX12_givesWrong 76 = .ok (.invokevirtual 258, 3) := by decide +kernel
theorem dX12_givesWrong_79 : decode cX12_givesWrong 79 = .ok (.ifCond .eq 14, 3) := by decide +kernel
theorem dX12_givesWrong_82 : decode cX12_givesWrong 82 = .ok (.aload_n 0, 1) := by decide +kernel
theorem dX12_givesWrong_83 : decode cX12_givesWrong 83 = .ok (.iconst 3, 1) := by decide +kernel
theorem dX12_givesWrong_84 : decode cX12_givesWrong 84 = .ok (.iconst 1, 1) := by decide +kernel
theorem dX12_givesWrong_85 : decode cX12_givesWrong 85 = .ok (.bipush 9, 2) := by decide +kernel
theorem dX12_givesWrong_87 : decode cX12_givesWrong 87 = .ok (.invokevirtual 258, 3) := by decide +kernel
theorem dX12_givesWrong_90 : decode cX12_givesWrong 90 = .ok (.ifCond .ne 5, 3) := by decide +kernel
theorem dX12_givesWrong_93 : decode cX12_givesWrong 93 = .ok (.iconst 0, 1) := by decide +kernel
theorem dX12_givesWrong_94 : decode cX12_givesWrong 94 = .ok (.ireturn, 1) := by decide +kernel
theorem dX12_givesWrong_95 : decode cX12_givesWrong 95 = .ok (.aload_n 0, 1) := by decide +kernel
theorem dX12_givesWrong_96 : decode cX12_givesWrong 96 = .ok (.getfield 45, 3) := by decide +kernel
theorem dX12_givesWrong_99 : decode cX12_givesWrong 99 = .ok (.aload_n 0, 1) := by decide +kernel
theorem dX12_givesWrong_100 : decode cX12_givesWrong 100 = .ok (.getfield 48, 3) := by decide +kernel
theorem dX12_givesWrong_103 : decode cX12_givesWrong 103 = .ok (.iconst 0, 1) := by decide +kernel
theorem dX12_givesWrong_104 : decode cX12_givesWrong 104 = .ok (.iaload, 1) := by decide +kernel
theorem dX12_givesWrong_105 : decode cX12_givesWrong 105 = .ok (.aload_n 0, 1) := by decide +kernel
theorem dX12_givesWrong_106 : decode cX12_givesWrong 106 = .ok (.getfield 48, 3) := by decide +kernel
theorem dX12_givesWrong_109 : decode cX12_givesWrong 109 = .ok (.iconst 1, 1) := by decide +kernel
theorem dX12_givesWrong_110 : decode cX12_givesWrong 110 = .ok (.iaload, 1) := by decide +kernel
theorem dX12_givesWrong_111 : decode cX12_givesWrong 111 = .ok (.aload_n 0, 1) := by decide +kernel
theorem dX12_givesWrong_112 : decode cX12_givesWrong 112 = .ok (.getfield 48, 3) := by decide +kernel
theorem dX12_givesWrong_115 : decode cX12_givesWrong 115 = .ok (.iconst 2, 1) := by decide +kernel
theorem dX12_givesWrong_116 : decode cX12_givesWrong 116 = .ok (.iaload, 1) := by decide +kernel
theorem dX12_givesWrong_117 : decode cX12_givesWrong 117 = .ok (.aload_n 0, 1) := by decide +kernel
theorem dX12_givesWrong_118 : decode cX12_givesWrong 118 = .ok (.getfield 48, 3) := by decide +kernel
theorem dX12_givesWrong_121 : decode cX12_givesWrong 121 = .ok (.iconst 3, 1) := by decide +kernel
theorem dX12_givesWrong_122 : decode cX12_givesWrong 122 = .ok (.iaload, 1) := by decide +kernel
theorem dX12_givesWrong_123 : decode cX12_givesWrong 123 = .ok (.invokestatic 84, 3) := by decide +kernel
theorem dX12_givesWrong_126 : decode cX12_givesWrong 126 = .ok (.iconst 1, 1) := by decide +kernel
theorem dX12_givesWrong_127 : decode cX12_givesWrong 127 = .ok (.ireturn, 1) := by decide +kernel
set_option maxRecDepth 20000 in
theorem ggX12_givesRing_X12_goBehind : GoodIn wsX12_givesRing wsX12_goBehind := goodIn_r _ [8, 9, 10, 11, 12, 13, 7, 14, 15, 16, 1, 2, 17, 18, 19, 20, 21, 22, 23, 24, 25, 26, 27, 28, 29, 51, 52, 53, 54, 55, 56, 57, 58, 59, 60, 61, 62, 63, 64, 65, 66, 67, 68, 69] (by decide +kernel) (by decide +kernel)
set_option maxRecDepth 20000 in
theorem gX12_givesRing_X12_goBehind : GoodIn wsX12_givesRing (wsV RX12 255 RX12 yX12_goBehind wsX12_goBehind) := goodIn_app (goodIn_of _ (by decide +kernel)) ggX12_givesRing_X12_goBehind
set_option maxRecDepth 20000 in
theorem ggX12_givesRing_X12_in : GoodIn wsX12_givesRing wsX12_in := goodIn_r _ [24] (by decide +kernel) (by decide +kernel)
set_option maxRecDepth 20000 in
theorem gX12_givesRing_X12_in : GoodIn wsX12_givesRing (va_wsS RX12 55 yX12_in wsX12_in) := goodIn_app (goodIn_of _ (by decide +kernel)) ggX12_givesRing_X12_in
set_option maxRecDepth 20000 in
theorem ggX12_givesRing_X12_canOff : GoodIn wsX12_givesRing wsX12_canOff := goodIn_r _ [32, 33, 34, 7, 35, 36, 37, 38, 39, 40, 41, 42, 43, 44, 45, 46, 47] (by decide +kernel) (by decide +kernel)
set_option maxRecDepth 20000 in
theorem gX12_givesRing_X12_canOff : GoodIn wsX12_givesRing (va_wsS RX12 121 yX12_canOff wsX12_canOff) := goodIn_app (goodIn_of _ (by decide +kernel)) ggX12_givesRing_X12_canOff
set_option maxRecDepth 20000 in
theorem ggX12_givesRing_X12_goOff : GoodIn wsX12_givesRing wsX12_goOff := goodIn_r _ [50] (by decide +kernel) (by decide +kernel)
set_option maxRecDepth 20000 in
theorem gX12_givesRing_X12_goOff : GoodIn wsX12_givesRing (va_wsS RX12 128 yX12_goOff wsX12_goOff) := goodIn_app (goodIn_of _ (by decide +kernel)) ggX12_givesRing_X12_goOff
theorem dX12_givesRing_0 : decode cX12_givesRing 0 = .ok (.aload_n 0, 1) := by decide +kernel
theorem dX12_givesRing_1 : decode cX12_givesRing 1 = .ok (.invokevirtual 255, 3) := by decide +kernel
theorem dX12_givesRing_4 : decode cX12_givesRing 4 = .ok (.aload_n 0, 1) := by decide +kernel
theorem dX12_givesRing_5 : decode cX12_givesRing 5 = .ok (.getfield 239, 3) := by decide +kernel
theorem dX12_givesRing_8 : decode cX12_givesRing 8 = .ok (.iconst 2, 1) := by decide +kernel
theorem dX12_givesRing_9 : decode cX12_givesRing 9 = .ok (.if_icmp .ne 38, 3) := by decide +kernel
theorem dX12_givesRing_12 : decode cX12_givesRing 12 = .ok (.aload_n 0, 1) := by decide +kernel
theorem dX12_givesRing_13 : decode cX12_givesRing 13 = .ok (.getfield 242, 3) := by decide +kernel
theorem dX12_givesRing_16 : decode cX12_givesRing 16 = .ok (.i2l, 1) := by decide +kernel
theorem dX12_givesRing_17 : decode cX12_givesRing 17 = .ok (.lconst 0, 1) := by decide +kernel
theorem dX12_givesRing_18 : decode cX12_givesRing 18 = .ok (.aload_n 0, 1) := by decide +kernel
theorem dX12_givesRing_19 : decode cX12_givesRing 19 = .ok (.getfield 45, 3) := by decide +kernel
theorem dX12_givesRing_22 : decode cX12_givesRing 22 = .ok (.iconst 1, 1) := by decide +kernel
theorem dX12_givesRing_23 : decode cX12_givesRing 23 = .ok (.iaload, 1) := by decide +kernel
theorem dX12_givesRing_24 : decode cX12_givesRing 24 = .ok (.iconst 1, 1) := by decide +kernel
theorem dX12_givesRing_25 : decode cX12_givesRing 25 = .ok (.isub, 1) := by decide +kernel
theorem dX12_givesRing_26 : decode cX12_givesRing 26 = .ok (.i2l, 1) := by decide +kernel
theorem dX12_givesRing_27 : decode cX12_givesRing 27 = .ok (.invokestatic 55, 3) := by decide +kernel
theorem dX12_givesRing_30 : decode cX12_givesRing 30 = .ok (.ifCond .eq 17, 3) := by decide +kernel
theorem dX12_givesRing_33 : decode cX12_givesRing 33 = .ok (.aload_n 0, 1) := by decide +kernel
theorem dX12_givesRing_34 : decode cX12_givesRing 34 = .ok (.getfield 45, 3) := by decide +kernel
theorem dX12_givesRing_37 : decode cX12_givesRing 37 = .ok (.aload_n 0, 1) := by decide +kernel
theorem dX12_givesRing_38 : decode cX12_givesRing 38 = .ok (.getfield 242, 3) := by decide +kernel
theorem dX12_givesRing_41 : decode cX12_givesRing 41 = .ok (.invokestatic 121, 3) := by decide +kernel
theorem dX12_givesRing_44 : decode cX12_givesRing 44 = .ok (.ifCond .ne 5, 3) := by decide +kernel
theorem dX12_givesRing_47 : decode cX12_givesRing 47 = .ok (.iconst 0, 1) := by decide +kernel
theorem dX12_givesRing_48 : decode cX12_givesRing 48 = .ok (.ireturn, 1) := by decide +kernel
theorem dX12_givesRing_49 : decode cX12_givesRing 49 = .ok (.aload_n 0, 1) := by decide +kernel
theorem dX12_givesRing_50 : decode cX12_givesRing 50 = .ok (.getfield 45, 3) := by decide +kernel
theorem dX12_givesRing_53 : decode cX12_givesRing 53 = .ok (.aload_n 0, 1) := by decide +kernel
theorem dX12_givesRing_54 : decode cX12_givesRing 54 = .ok (.getfield 242, 3) := by decide +kernel
theorem dX12_givesRing_57 : decode cX12_givesRing 57 = .ok (.iconst 1, 1) := by decide +kernel
theorem dX12_givesRing_58 : decode cX12_givesRing 58 = .ok (.invokestatic 128, 3) := by decide +kernel
theorem dX12_givesRing_61 : decode cX12_givesRing 61 = .ok (.aload_n 0, 1) := by decide +kernel
theorem dX12_givesRing_62 : decode cX12_givesRing 62 = .ok (.invokevirtual 255, 3) := by decide +kernel
theorem dX12_givesRing_65 : decode cX12_givesRing 65 = .ok (.iconst 1, 1) := by decide +kernel
theorem dX12_givesRing_66 : decode cX12_givesRing 66 = .ok (.ireturn, 1) := by decide +kernel
set_option maxRecDepth 20000 in
theorem ggX12_givesDays_X12_goBehind : GoodIn wsX12_givesDays wsX12_goBehind := goodIn_r _ [7, 8, 9, 10, 11, 12, 6, 13, 14, 15, 16, 17, 18, 19, 20, 21, 22, 23, 24, 25, 26, 27, 28, 29, 30, 44, 45, 46, 47, 48, 49, 50, 51, 52, 53, 54, 55, 56, 57, 58, 59, 60, 61, 62] (by decide +kernel) (by decide +kernel)
set_option maxRecDepth 20000 in
theorem gX12_givesDays_X12_goBehind : GoodIn wsX12_givesDays (wsV RX12 255 RX12 yX12_goBehind wsX12_goBehind) := goodIn_app (goodIn_of _ (by decide +kernel)) ggX12_givesDays_X12_goBehind
set_option maxRecDepth 20000 in
theorem ggX12_givesDays_X12_gives : GoodIn wsX12_givesDays wsX12_gives := goodIn_r _ [34, 16, 17, 2, 23, 24, 6, 25, 3, 4, 5, 7, 8, 9, 10, 11, 12, 13, 14, 15, 18, 19, 20, 21, 22, 26, 27, 28, 29, 30, 44, 45, 46, 47, 48, 49, 50, 51, 52, 53, 54, 55, 56, 57, 58, 59, 60, 61, 62] (by decide +kernel) (by decide +kernel)
set_option maxRecDepth 20000 in
theorem gX12_givesDays_X12_gives : GoodIn wsX12_givesDays (wsV RX12 258 RX12 yX12_gives wsX12_gives) := goodIn_app (goodIn_of _ (by decide +kernel)) ggX12_givesDays_X12_gives
set_option maxRecDepth 20000 in
theorem ggX12_givesDays_X12_goDays : GoodIn wsX12_givesDays wsX12_goDays := goodIn_r _ [37, 38, 39, 6, 40, 41, 42, 43] (by decide +kernel) (by decide +kernel)
set_option maxRecDepth 20000 in
theorem gX12_givesDays_X12_goDays : GoodIn wsX12_givesDays (va_wsS RX12 114 yX12_goDays wsX12_goDays) := goodIn_app (goodIn_of _ (by decide +kernel)) ggX12_givesDays_X12_goDays
theorem dX12_givesDays_0 : decode cX12_givesDays 0 = .ok (.aload_n 0, 1) := by decide +kernel
theorem dX12_givesDays_1 : decode cX12_givesDays 1 = .ok (.invokevirtual 255, 3) := by decide +kernel
theorem dX12_givesDays_4 : decode cX12_givesDays 4 = .ok (.aload_n 0, 1) := by decide +kernel
theorem dX12_givesDays_5 : decode cX12_givesDays 5 = .ok (.iconst 0, 1) := by decide +kernel
theorem dX12_givesDays_6 : decode cX12_givesDays 6 = .ok (.iconst 1, 1) := by decide +kernel
theorem dX12_givesDays_7 : decode cX12_givesDays 7 = .ok (.bipush 99, 2) := by decide +kernel
theorem dX12_givesDays_9 : decode cX12_givesDays 9 = .ok (.invokevirtual 258, 3) := by decide +kernel
theorem dX12_givesDays_12 : decode cX12_givesDays 12 = .ok (.ifCond .ne 5, 3) := by decide +kernel
theorem dX12_givesDays_15 : decode cX12_givesDays 15 = .ok (.iconst 0, 1) := by decide +kernel
theorem dX12_givesDays_16 : decode cX12_givesDays 16 = .ok (.ireturn, 1) := by decide +kernel
theorem dX12_givesDays_17 : decode cX12_givesDays 17 = .ok (.aload_n 0, 1) := by decide +kernel
theorem dX12_givesDays_18 : decode cX12_givesDays 18 = .ok (.getfield 45, 3) := by decide +kernel
theorem dX12_givesDays_21 : decode cX12_givesDays 21 = .ok (.aload_n 0, 1) := by decide +kernel
theorem dX12_givesDays_22 : decode cX12_givesDays 22 = .ok (.getfield 48, 3) := by decide +kernel
theorem dX12_givesDays_25 : decode cX12_givesDays 25 = .ok (.iconst 0, 1) := by decide +kernel
theorem dX12_givesDays_26 : decode cX12_givesDays 26 = .ok (.iaload, 1) := by decide +kernel
theorem dX12_givesDays_27 : decode cX12_givesDays 27 = .ok (.invokestatic 114, 3) := by decide +kernel
theorem dX12_givesDays_30 : decode cX12_givesDays 30 = .ok (.iconst 1, 1) := by decide +kernel
theorem dX12_givesDays_31 : decode cX12_givesDays 31 = .ok (.ireturn, 1) := by decide +kernel
set_option maxRecDepth 20000 in
theorem ggX12_givesItem_X12_spells : GoodIn wsX12_givesItem wsX12_spells := goodIn_r _ [5, 6, 7, 8, 9, 85, 86, 87, 88, 89, 90, 91, 92, 93, 94, 95, 96, 97, 98, 99, 100, 101, 102, 103] (by decide +kernel) (by decide +kernel)
set_option maxRecDepth 20000 in
theorem gX12_givesItem_X12_spells : GoodIn wsX12_givesItem (wsV RX12 262 RX12 yX12_spells wsX12_spells) := goodIn_app (goodIn_of _ (by decide +kernel)) ggX12_givesItem_X12_spells
set_option maxRecDepth 20000 in
theorem ggX12_givesItem_X12_givesOne : GoodIn wsX12_givesItem wsX12_givesOne := goodIn_r _ [13, 14, 15, 16, 17, 18, 4, 19, 9, 7, 20, 21, 22, 23, 24, 8, 6, 25, 26, 27, 28, 29, 30, 31, 32, 33, 34, 35, 36, 37, 38, 39, 40, 41, 42, 85, 86, 87, 88, 89, 90, 91, 92, 93, 94, 95, 96, 97, 98, 99, 100, 101, 102, 103] (by decide +kernel) (by decide +kernel)
set_option maxRecDepth 20000 in
theorem gX12_givesItem_X12_givesOne : GoodIn wsX12_givesItem (wsV RX12 266 RX12 yX12_givesOne wsX12_givesOne) := goodIn_app (goodIn_of _ (by decide +kernel)) ggX12_givesItem_X12_givesOne
set_option maxRecDepth 20000 in
theorem ggX12_givesItem_X12_givesWrong : GoodIn wsX12_givesItem wsX12_givesWrong := goodIn_r _ [46, 14, 6, 25, 15, 16, 17, 18, 4, 19, 9, 7, 20, 21, 22, 23, 24, 8, 26, 27, 28, 29, 30, 31, 32, 33, 34, 35, 36, 37, 38, 39, 40, 41, 42, 47, 48, 49, 85, 86, 87, 88, 89, 90, 91, 92, 93, 94, 95, 96, 97, 98, 99, 100, 101, 102, 103] (by decide +kernel) (by decide +kernel)
set_option maxRecDepth 20000 in
theorem gX12_givesItem_X12_givesWrong : GoodIn wsX12_givesItem (wsV RX12 270 RX12 yX12_givesWrong wsX12_givesWrong) := goodIn_app (goodIn_of _ (by decide +kernel)) ggX12_givesItem_X12_givesWrong
set_option maxRecDepth 20000 in
theorem ggX12_givesItem_X12_givesRing : GoodIn wsX12_givesItem wsX12_givesRing := goodIn_r _ [53, 6, 25, 14, 16, 17, 18, 4, 19, 9, 7, 20, 21, 22, 23, 24, 8, 26, 27, 28, 29, 30, 31, 32, 33, 34, 35, 36, 37, 38, 54, 55, 56, 57, 58, 59, 60, 61, 62, 63, 64, 65, 66, 67, 68, 69, 70, 71, 72, 73, 74, 85, 86, 87, 88, 89, 90, 91, 92, 93, 94, 95, 96, 97, 98, 99, 100, 101, 102, 103] (by decide +kernel) (by decide +kernel)
set_option maxRecDepth 20000 in
theorem gX12_givesItem_X12_givesRing : GoodIn wsX12_givesItem (wsV RX12 273 RX12 yX12_givesRing wsX12_givesRing) := goodIn_app (goodIn_of _ (by decide +kernel)) ggX12_givesItem_X12_givesRing
set_option maxRecDepth 20000 in
theorem ggX12_givesItem_X12_givesDays : GoodIn wsX12_givesItem wsX12_givesDays := goodIn_r _ [78, 14, 15, 16, 17, 18, 4, 19, 9, 7, 20, 21, 22, 23, 24, 8, 6, 25, 26, 27, 28, 29, 30, 31, 32, 33, 34, 35, 36, 37, 38, 39, 40, 41, 42, 79, 80, 81, 82, 83, 84, 57, 58, 59, 85, 86, 87, 88, 89, 90, 91, 92, 93, 94, 95, 96, 97, 98, 99, 100, 101, 102, 103] (by decide +kernel) (by decide +kernel)
set_option maxRecDepth 20000 in
theorem gX12_givesItem_X12_givesDays : GoodIn wsX12_givesItem (wsV RX12 276 RX12 yX12_givesDays wsX12_givesDays) := goodIn_app (goodIn_of _ (by decide +kernel)) ggX12_givesItem_X12_givesDays
theorem dX12_givesItem_0 : decode cX12_givesItem 0 = .ok (.aload_n 0, 1) := by decide +kernel
theorem dX12_givesItem_1 : decode cX12_givesItem 1 = .ok (.iconst 3, 1) := by decide +kernel
theorem dX12_givesItem_2 : decode cX12_givesItem 2 = .ok (.bipush 111, 2) := by decide +kernel
theorem dX12_givesItem_4 : decode cX12_givesItem 4 = .ok (.bipush 110, 2) := by decide +kernel
theorem dX12_givesItem_6 : decode cX12_givesItem 6 = .ok (.bipush 101, 2) := by decide +kernel
theorem dX12_givesItem_8 : decode cX12_givesItem 8 = .ok (.iconst 0, 1) := by decide +kernel
theorem dX12_givesItem_9 : decode cX12_givesItem 9 = .ok (.iconst 0, 1) := by decide +kernel
theorem dX12_givesItem_10 : decode cX12_givesItem 10 = .ok (.iconst 0, 1) := by decide +kernel
theorem dX12_givesItem_11 : decode cX12_givesItem 11 = .ok (.invokevirtual 262, 3) := by decide +kernel
theorem dX12_givesItem_14 : decode cX12_givesItem 14 = .ok (.ifCond .eq 8, 3) := by decide +kernel
theorem dX12_givesItem_17 : decode cX12_givesItem 17 = .ok (.aload_n 0, 1) := by decide +kernel
theorem dX12_givesItem_18 : decode cX12_givesItem 18 = .ok (.invokevirtual 266, 3) := by decide +kernel
theorem dX12_givesItem_21 : decode cX12_givesItem 21 = .ok (.ireturn, 1) := by decide +kernel
theorem dX12_givesItem_22 : decode cX12_givesItem 22 = .ok (.aload_n 0, 1) := by decide +kernel
theorem dX12_givesItem_23 : decode cX12_givesItem 23 = .ok (.iconst 5, 1) := by decide +kernel
theorem dX12_givesItem_24 : decode cX12_givesItem 24 = .ok (.bipush 119, 2) := by decide +kernel
theorem dX12_givesItem_26 : decode cX12_givesItem 26 = .ok (.bipush 114, 2) := by decide +kernel
theorem dX12_givesItem_28 : decode cX12_givesItem 28 = .ok (.bipush 111, 2) := by decide +kernel
theorem dX12_givesItem_30 : decode cX12_givesItem 30 = .ok (.bipush 110, 2) := by decide +kernel
theorem dX12_givesItem_32 : decode cX12_givesItem 32 = .ok (.bipush 103, 2) := by decide +kernel
theorem dX12_givesItem_34 : decode cX12_givesItem 34 = .ok (.iconst 0, 1) := by decide +kernel
theorem dX12_givesItem_35 : decode cX12_givesItem 35 = .ok (.invokevirtual 262, 3) := by decide +kernel
theorem dX12_givesItem_38 : decode cX12_givesItem 38 = .ok (.ifCond .eq 8, 3) := by decide +kernel
theorem dX12_givesItem_41 : decode cX12_givesItem 41 = .ok (.aload_n 0, 1) := by decide +kernel
theorem dX12_givesItem_42 : decode cX12_givesItem 42 = .ok (.invokevirtual 270, 3) := by decide +kernel
theorem dX12_givesItem_45 : decode cX12_givesItem 45 = .ok (.ireturn, 1) := by decide +kernel
theorem dX12_givesItem_46 : decode cX12_givesItem 46 = .ok (.aload_n 0, 1) := by decide +kernel
theorem dX12_givesItem_47 : decode cX12_givesItem 47 = .ok (.iconst 4, 1) := by decide +kernel
theorem dX12_givesItem_48 : decode cX12_givesItem 48 = .ok (.bipush 114, 2) := by decide +kernel
theorem dX12_givesItem_50 : decode cX12_givesItem 50 = .ok (.bipush 105, 2) := by decide +kernel
theorem dX12_givesItem_52 : decode cX12_givesItem 52 = .ok (.bipush 110, 2) := by decide +kernel
theorem dX12_givesItem_54 : decode cX12_givesItem 54 = .ok (.bipush 103, 2) := by decide +kernel
theorem dX12_givesItem_56 : decode cX12_givesItem 56 = .ok (.iconst 0, 1) := by decide +kernel
theorem dX12_givesItem_57 : decode cX12_givesItem 57 = .ok (.iconst 0, 1) := by decide +kernel
theorem dX12_givesItem_58 : decode cX12_givesItem 58 = .ok (.invokevirtual 262, 3) := by decide +kernel
theorem dX12_givesItem_61 : decode cX12_givesItem 61 = .ok (.ifCond .eq 8, 3) := by decide +kernel
theorem dX12_givesItem_64 : decode cX12_givesItem 64 = .ok (.aload_n 0, 1) := by decide +kernel
theorem dX12_givesItem_65 : decode cX12_givesItem 65 = .ok (.invokevirtual 273, 3) := by decide +kernel
theorem dX12_givesItem_68 : decode cX12_givesItem 68 = .ok (.ireturn, 1) := by decide +kernel
theorem dX12_givesItem_69 : decode cX12_givesItem 69 = .ok (.aload_n 0, 1) := by decide +kernel
theorem dX12_givesItem_70 : decode cX12_givesItem 70 = .ok (.iconst 4, 1) := by decide +kernel
theorem dX12_givesItem_71 : decode cX12_givesItem 71 = .ok (.bipush 100, 2) := by decide +kernel
theorem dX12_givesItem_73 : decode cX12_givesItem 73 = .ok (.bipush 97, 2) := by decide +kernel
theorem dX12_givesItem_75 : decode cX12_givesItem 75 = .ok (.bipush 121, 2) := by decide +kernel
theorem dX12_givesItem_77 : decode cX12_givesItem 77 = .ok (.bipush 115, 2) := by decide +kernel
theorem dX12_givesItem_79 : decode cX12_givesItem 79 = .ok (.iconst 0, 1) := by decide +kernel
theorem dX12_givesItem_80 : decode cX12_givesItem 80 = .ok (.iconst 0, 1) := by decide +kernel
theorem dX12_givesItem_81 : decode cX12_givesItem 81 = .ok (.invokevirtual 262, 3) := by decide +kernel
theorem dX12_givesItem_84 : decode cX12_givesItem 84 = .ok (.ifCond .eq 14, 3) := by decide +kernel
theorem dX12_givesItem_87 : decode cX12_givesItem 87 = .ok (.aload_n 0, 1) := by decide +kernel
theorem dX12_givesItem_88 : decode cX12_givesItem 88 = .ok (.invokevirtual 276, 3) := by decide +kernel
theorem dX12_givesItem_91 : decode cX12_givesItem 91 = .ok (.ifCond .eq 7, 3) := by decide +kernel
theorem dX12_givesItem_94 : decode cX12_givesItem 94 = .ok (.iconst 1, 1) := by decide +kernel
theorem dX12_givesItem_95 : decode cX12_givesItem 95 = .ok (.goto 4, 3) := by decide +kernel
theorem dX12_givesItem_98 : decode cX12_givesItem 98 = .ok (.iconst 0, 1) := by decide +kernel
theorem dX12_givesItem_99 : decode cX12_givesItem 99 = .ok (.ireturn, 1) := by decide +kernel
set_option maxRecDepth 20000 in
theorem ggX12_read_X12_lookAt : GoodIn wsX12_read wsX12_lookAt := goodIn_r _ [9, 1, 10, 11, 12, 2, 13, 14, 15, 8, 16, 17, 18, 19, 20, 21, 22, 23, 24, 25, 26, 93, 94, 95, 96, 97, 98, 99, 100, 101, 102, 103, 104, 105, 106, 107, 108, 109, 110, 111] (by decide +kernel) (by decide +kernel)
set_option maxRecDepth 20000 in
theorem gX12_read_X12_lookAt : GoodIn wsX12_read (wsV RX12 251 RX12 yX12_lookAt wsX12_lookAt) := goodIn_app (goodIn_of _ (by decide +kernel)) ggX12_read_X12_lookAt
set_option maxRecDepth 20000 in
theorem ggX12_read_X12_spells : GoodIn wsX12_read wsX12_spells := goodIn_r _ [30, 2, 12, 11, 1, 93, 94, 95, 96, 97, 98, 99, 100, 101, 102, 103, 104, 105, 106, 107, 108, 109, 110, 111] (by decide +kernel) (by decide +kernel)
set_option maxRecDepth 20000 in
theorem gX12_read_X12_spells : GoodIn wsX12_read (wsV RX12 262 RX12 yX12_spells wsX12_spells) := goodIn_app (goodIn_of _ (by decide +kernel)) ggX12_read_X12_spells
set_option maxRecDepth 20000 in
theorem ggX12_read_X12_goBehind : GoodIn wsX12_read wsX12_goBehind := goodIn_r _ [34, 1, 12, 5, 6, 7, 8, 9, 10, 11, 2, 13, 14, 15, 16, 17, 18, 19, 20, 21, 22, 23, 24, 25, 26, 93, 94, 95, 96, 97, 98, 99, 100, 101, 102, 103, 104, 105, 106, 107, 108, 109, 110, 111] (by decide +kernel) (by decide +kernel)
set_option maxRecDepth 20000 in
theorem gX12_read_X12_goBehind : GoodIn wsX12_read (wsV RX12 255 RX12 yX12_goBehind wsX12_goBehind) := goodIn_app (goodIn_of _ (by decide +kernel)) ggX12_read_X12_goBehind
set_option maxRecDepth 20000 in
theorem ggX12_read_X12_begin : GoodIn wsX12_read wsX12_begin := goodIn_r _ [37] (by decide +kernel) (by decide +kernel)
set_option maxRecDepth 20000 in
theorem gX12_read_X12_begin : GoodIn wsX12_read (va_wsS RX12 51 yX12_begin wsX12_begin) := goodIn_app (goodIn_of _ (by decide +kernel)) ggX12_read_X12_begin
set_option maxRecDepth 20000 in
theorem ggX12_read_X12_givesItem : GoodIn wsX12_read wsX12_givesItem := goodIn_r _ [41, 27, 28, 29, 8, 30, 2, 12, 11, 1, 42, 43, 44, 45, 3, 46, 31, 32, 33, 34, 5, 6, 7, 9, 10, 13, 14, 15, 16, 17, 18, 19, 20, 21, 22, 23, 24, 25, 26, 47, 48, 49, 50, 51, 52, 53, 54, 55, 56, 57, 58, 59, 60, 61, 62, 63, 64, 65, 66, 67, 68, 69, 70, 71, 72, 73, 74, 75, 76, 77, 78, 79, 80, 81, 82, 83, 84, 85, 86, 87, 88, 89, 90, 91, 92, 93, 94, 95, 96, 97, 98, 99, 100, 101, 102, 103, 104, 105, 106, 107, 108, 109, 110, 111] (by decide +kernel) (by decide +kernel)
set_option maxRecDepth 20000 in
theorem gX12_read_X12_givesItem : GoodIn wsX12_read (wsV RX12 279 RX12 yX12_givesItem wsX12_givesItem) := goodIn_app (goodIn_of _ (by decide +kernel)) ggX12_read_X12_givesItem
theorem dX12_read_0 : decode cX12_read 0 = .ok (.aload_n 0, 1) := by decide +kernel
theorem dX12_read_1 : decode cX12_read 1 = .ok (.iconst 0, 1) := by decide +kernel
theorem dX12_read_2 : decode cX12_read 2 = .ok (.invokevirtual 251, 3) := by decide +kernel
theorem dX12_read_5 : decode cX12_read 5 = .ok (.aload_n 0, 1) := by decide +kernel
theorem dX12_read_6 : decode cX12_read 6 = .ok (.bipush 6, 2) := by decide +kernel
theorem dX12_read_8 : decode cX12_read 8 = .ok (.bipush 118, 2) := by decide +kernel
theorem dX12_read_10 : decode cX12_read 10 = .ok (.bipush 97, 2) := by decide +kernel
theorem dX12_read_12 : decode cX12_read 12 = .ok (.bipush 108, 2) := by decide +kernel
theorem dX12_read_14 : decode cX12_read 14 = .ok (.bipush 108, 2) := by decide +kernel
theorem dX12_read_16 : decode cX12_read 16 = .ok (.bipush 101, 2) := by decide +kernel
theorem dX12_read_18 : decode cX12_read 18 = .ok (.bipush 121, 2) := by decide +kernel
theorem dX12_read_20 : decode cX12_read 20 = .ok (.invokevirtual 262, 3) := by decide +kernel
theorem dX12_read_23 : decode cX12_read 23 = .ok (.ifCond .ne 11, 3) := by decide +kernel
theorem dX12_read_26 : decode cX12_read 26 = .ok (.bipush (-10), 2) := by decide +kernel
theorem dX12_read_28 : decode cX12_read 28 = .ok (.aload_n 0, 1) := by decide +kernel
theorem dX12_read_29 : decode cX12_read 29 = .ok (.getfield 233, 3) := by decide +kernel
theorem dX12_read_32 : decode cX12_read 32 = .ok (.isub, 1) := by decide +kernel
theorem dX12_read_33 : decode cX12_read 33 = .ok (.ireturn, 1) := by decide +kernel
theorem dX12_read_34 : decode cX12_read 34 = .ok (.aload_n 0, 1) := by decide +kernel
theorem dX12_read_35 : decode cX12_read 35 = .ok (.invokevirtual 255, 3) := by decide +kernel
theorem dX12_read_38 : decode cX12_read 38 = .ok (.aload_n 0, 1) := by decide +kernel
theorem dX12_read_39 : decode cX12_read 39 = .ok (.getfield 239, 3) := by decide +kernel
theorem dX12_read_42 : decode cX12_read 42 = .ok (.iconst 3, 1) := by decide +kernel
theorem dX12_read_43 : decode cX12_read 43 = .ok (.if_icmp .eq 11, 3) := by decide +kernel
theorem dX12_read_46 : decode cX12_read 46 = .ok (.bipush (-10), 2) := by decide +kernel
theorem dX12_read_48 : decode cX12_read 48 = .ok (.aload_n 0, 1) := by decide +kernel
theorem dX12_read_49 : decode cX12_read 49 = .ok (.getfield 233, 3) := by decide +kernel
theorem dX12_read_52 : decode cX12_read 52 = .ok (.isub, 1) := by decide +kernel
theorem dX12_read_53 : decode cX12_read 53 = .ok (.ireturn, 1) := by decide +kernel
theorem dX12_read_54 : decode cX12_read 54 = .ok (.aload_n 0, 1) := by decide +kernel
theorem dX12_read_55 : decode cX12_read 55 = .ok (.invokevirtual 255, 3) := by decide +kernel
theorem dX12_read_58 : decode cX12_read 58 = .ok (.aload_n 0, 1) := by decide +kernel
theorem dX12_read_59 : decode cX12_read 59 = .ok (.getfield 45, 3) := by decide +kernel
theorem dX12_read_62 : decode cX12_read 62 = .ok (.invokestatic 51, 3) := by decide +kernel
theorem dX12_read_65 : decode cX12_read 65 = .ok (.iconst 1, 1) := by decide +kernel
theorem dX12_read_66 : decode cX12_read 66 = .ok (.istore_n 1, 1) := by decide +kernel
theorem dX12_read_67 : decode cX12_read 67 = .ok (.aload_n 0, 1) := by decide +kernel
theorem dX12_read_68 : decode cX12_read 68 = .ok (.getfield 239, 3) := by decide +kernel
theorem dX12_read_71 : decode cX12_read 71 = .ok (.ifCond .eq 36, 3) := by decide +kernel
theorem dX12_read_74 : decode cX12_read 74 = .ok (.aload_n 0, 1) := by decide +kernel
theorem dX12_read_75 : decode cX12_read 75 = .ok (.invokevirtual 279, 3) := by decide +kernel
theorem dX12_read_78 : decode cX12_read 78 = .ok (.ifCond .eq 11, 3) := by decide +kernel
theorem dX12_read_81 : decode cX12_read 81 = .ok (.aload_n 0, 1) := by decide +kernel
theorem dX12_read_82 : decode cX12_read 82 = .ok (.getfield 239, 3) := by decide +kernel
theorem dX12_read_85 : decode cX12_read 85 = .ok (.iconst 3, 1) := by decide +kernel
theorem dX12_read_86 : decode cX12_read 86 = .ok (.if_icmp .eq 11, 3) := by decide +kernel
theorem dX12_read_89 : decode cX12_read 89 = .ok (.bipush (-10), 2) := by decide +kernel
theorem dX12_read_91 : decode cX12_read 91 = .ok (.aload_n 0, 1) := by decide +kernel
theorem dX12_read_92 : decode cX12_read 92 = .ok (.getfield 233, 3) := by decide +kernel
theorem dX12_read_95 : decode cX12_read 95 = .ok (.isub, 1) := by decide +kernel
theorem dX12_read_96 : decode cX12_read 96 = .ok (.ireturn, 1) := by decide +kernel
theorem dX12_read_97 : decode cX12_read 97 = .ok (.aload_n 0, 1) := by decide +kernel
theorem dX12_read_98 : decode cX12_read 98 = .ok (.invokevirtual 255, 3) := by decide +kernel
theorem dX12_read_101 : decode cX12_read 101 = .ok (.iinc 1 1, 3) := by decide +kernel
theorem dX12_read_104 : decode cX12_read 104 = .ok (.goto (-37), 3) := by decide +kernel
theorem dX12_read_107 : decode cX12_read 107 = .ok (.iconst 0, 1) := by decide +kernel
theorem dX12_read_108 : decode cX12_read 108 = .ok (.istore_n 2, 1) := by decide +kernel
theorem dX12_read_109 : decode cX12_read 109 = .ok (.iload_n 2, 1) := by decide +kernel
theorem dX12_read_110 : decode cX12_read 110 = .ok (.sipush 128, 3) := by decide +kernel
theorem dX12_read_113 : decode cX12_read 113 = .ok (.if_icmp .ge 21, 3) := by decide +kernel
theorem dX12_read_116 : decode cX12_read 116 = .ok (.aload_n 0, 1) := by decide +kernel
theorem dX12_read_117 : decode cX12_read 117 = .ok (.getfield 7, 3) := by decide +kernel
theorem dX12_read_120 : decode cX12_read 120 = .ok (.iload_n 2, 1) := by decide +kernel
theorem dX12_read_121 : decode cX12_read 121 = .ok (.aload_n 0, 1) := by decide +kernel
theorem dX12_read_122 : decode cX12_read 122 = .ok (.getfield 45, 3) := by decide +kernel
theorem dX12_read_125 : decode cX12_read 125 = .ok (.iload_n 2, 1) := by decide +kernel
theorem dX12_read_126 : decode cX12_read 126 = .ok (.iaload, 1) := by decide +kernel
theorem dX12_read_127 : decode cX12_read 127 = .ok (.iastore, 1) := by decide +kernel
theorem dX12_read_128 : decode cX12_read 128 = .ok (.iinc 2 1, 3) := by decide +kernel
theorem dX12_read_131 : decode cX12_read 131 = .ok (.goto (-22), 3) := by decide +kernel
theorem dX12_read_134 : decode cX12_read 134 = .ok (.iload_n 1, 1) := by decide +kernel
theorem dX12_read_135 : decode cX12_read 135 = .ok (.ireturn, 1) := by decide +kernel
set_option maxRecDepth 20000 in
theorem ggX12_part_X12_bad : GoodIn wsX12_part wsX12_bad := goodIn_r _ [7, 8, 9, 10, 11, 12, 13, 14, 15, 16, 17, 18, 19, 20, 21, 22, 23, 24, 25, 26, 27] (by decide +kernel) (by decide +kernel)
set_option maxRecDepth 20000 in
theorem gX12_part_X12_bad : GoodIn wsX12_part (wsV RX12 71 RX12 yX12_bad wsX12_bad) := goodIn_app (goodIn_of _ (by decide +kernel)) ggX12_part_X12_bad
theorem dX12_part_0 : decode cX12_part 0 = .ok (.iload_n 1, 1) := by decide +kernel
theorem dX12_part_1 : decode cX12_part 1 = .ok (.ifCond .ne 10, 3) := by decide +kernel
theorem dX12_part_4 : decode cX12_part 4 = .ok (.aload_n 0, 1) := by decide +kernel
theorem dX12_part_5 : decode cX12_part 5 = .ok (.getfield 198, 3) := by decide +kernel
theorem dX12_part_8 : decode cX12_part 8 = .ok (.goto 22, 3) := by decide +kernel
theorem dX12_part_11 : decode cX12_part 11 = .ok (.iload_n 1, 1) := by decide +kernel
theorem dX12_part_12 : decode cX12_part 12 = .ok (.iconst 1, 1) := by decide +kernel
theorem dX12_part_13 : decode cX12_part 13 = .ok (.if_icmp .ne 10, 3) := by decide +kernel
theorem dX12_part_16 : decode cX12_part 16 = .ok (.aload_n 0, 1) := by decide +kernel
theorem dX12_part_17 : decode cX12_part 17 = .ok (.getfield 23, 3) := by decide +kernel
theorem dX12_part_20 : decode cX12_part 20 = .ok (.goto 10, 3) := by decide +kernel
theorem dX12_part_23 : decode cX12_part 23 = .ok (.aload_n 0, 1) := by decide +kernel
theorem dX12_part_24 : decode cX12_part 24 = .ok (.bipush (-2), 2) := by decide +kernel
theorem dX12_part_26 : decode cX12_part 26 = .ok (.invokevirtual 71, 3) := by decide +kernel
theorem dX12_part_29 : decode cX12_part 29 = .ok (.i2l, 1) := by decide +kernel
theorem dX12_part_30 : decode cX12_part 30 = .ok (.lreturn, 1) := by decide +kernel
set_option maxRecDepth 20000 in
theorem ggX12_image_X12_in : GoodIn wsX12_image wsX12_in := goodIn_r _ [7] (by decide +kernel) (by decide +kernel)
set_option maxRecDepth 20000 in
theorem gX12_image_X12_in : GoodIn wsX12_image (va_wsS RX12 55 yX12_in wsX12_in) := goodIn_app (goodIn_of _ (by decide +kernel)) ggX12_image_X12_in
set_option maxRecDepth 20000 in
theorem ggX12_image_X12_bad : GoodIn wsX12_image wsX12_bad := goodIn_r _ [11, 12, 13, 14, 15, 16, 17, 18, 19, 20, 21, 22, 23, 24, 25, 26, 27, 28, 29, 30, 31] (by decide +kernel) (by decide +kernel)
set_option maxRecDepth 20000 in
theorem gX12_image_X12_bad : GoodIn wsX12_image (wsV RX12 71 RX12 yX12_bad wsX12_bad) := goodIn_app (goodIn_of _ (by decide +kernel)) ggX12_image_X12_bad
theorem dX12_image_0 : decode cX12_image 0 = .ok (.iload_n 1, 1) := by decide +kernel
theorem dX12_image_1 : decode cX12_image 1 = .ok (.i2l, 1) := by decide +kernel
theorem dX12_image_2 : decode cX12_image 2 = .ok (.lconst 0, 1) := by decide +kernel
theorem dX12_image_3 : decode cX12_image 3 = .ok (.lconst 1, 1) := by decide +kernel
theorem dX12_image_4 : decode cX12_image 4 = .ok (.invokestatic 55, 3) := by decide +kernel
theorem dX12_image_7 : decode cX12_image 7 = .ok (.ifCond .ne 10, 3) := by decide +kernel
theorem dX12_image_10 : decode cX12_image 10 = .ok (.aload_n 0, 1) := by decide +kernel
theorem dX12_image_11 : decode cX12_image 11 = .ok (.bipush (-2), 2) := by decide +kernel
theorem dX12_image_13 : decode cX12_image 13 = .ok (.invokevirtual 71, 3) := by decide +kernel
theorem dX12_image_16 : decode cX12_image 16 = .ok (.ireturn, 1) := by decide +kernel
theorem dX12_image_17 : decode cX12_image 17 = .ok (.iconst 0, 1) := by decide +kernel
theorem dX12_image_18 : decode cX12_image 18 = .ok (.istore_n 2, 1) := by decide +kernel
theorem dX12_image_19 : decode cX12_image 19 = .ok (.iload_n 2, 1) := by decide +kernel
theorem dX12_image_20 : decode cX12_image 20 = .ok (.sipush 256, 3) := by decide +kernel
theorem dX12_image_23 : decode cX12_image 23 = .ok (.if_icmp .ge 27, 3) := by decide +kernel
theorem dX12_image_26 : decode cX12_image 26 = .ok (.aload_n 0, 1) := by decide +kernel
theorem dX12_image_27 : decode cX12_image 27 = .ok (.getfield 13, 3) := by decide +kernel
theorem dX12_image_30 : decode cX12_image 30 = .ok (.sipush 256, 3) := by decide +kernel
theorem dX12_image_33 : decode cX12_image 33 = .ok (.iload_n 1, 1) := by decide +kernel
theorem dX12_image_34 : decode cX12_image 34 = .ok (.imul, 1) := by decide +kernel
theorem dX12_image_35 : decode cX12_image 35 = .ok (.iload_n 2, 1) := by decide +kernel
theorem dX12_image_36 : decode cX12_image 36 = .ok (.iadd, 1) := by decide +kernel
theorem dX12_image_37 : decode cX12_image 37 = .ok (.aload_n 0, 1) := by decide +kernel
theorem dX12_image_38 : decode cX12_image 38 = .ok (.getfield 7, 3) := by decide +kernel
theorem dX12_image_41 : decode cX12_image 41 = .ok (.iload_n 2, 1) := by decide +kernel
theorem dX12_image_42 : decode cX12_image 42 = .ok (.iaload, 1) := by decide +kernel
theorem dX12_image_43 : decode cX12_image 43 = .ok (.iastore, 1) := by decide +kernel
theorem dX12_image_44 : decode cX12_image 44 = .ok (.iinc 2 1, 3) := by decide +kernel
theorem dX12_image_47 : decode cX12_image 47 = .ok (.goto (-28), 3) := by decide +kernel
theorem dX12_image_50 : decode cX12_image 50 = .ok (.aload_n 0, 1) := by decide +kernel
theorem dX12_image_51 : decode cX12_image 51 = .ok (.getfield 16, 3) := by decide +kernel
theorem dX12_image_54 : decode cX12_image 54 = .ok (.iload_n 1, 1) := by decide +kernel
theorem dX12_image_55 : decode cX12_image 55 = .ok (.iconst 1, 1) := by decide +kernel
theorem dX12_image_56 : decode cX12_image 56 = .ok (.bastore, 1) := by decide +kernel
theorem dX12_image_57 : decode cX12_image 57 = .ok (.iconst 1, 1) := by decide +kernel
theorem dX12_image_58 : decode cX12_image 58 = .ok (.ireturn, 1) := by decide +kernel
set_option maxRecDepth 20000 in
theorem ggX12_from_X12_in : GoodIn wsX12_from wsX12_in := goodIn_r _ [7] (by decide +kernel) (by decide +kernel)
set_option maxRecDepth 20000 in
theorem gX12_from_X12_in : GoodIn wsX12_from (va_wsS RX12 55 yX12_in wsX12_in) := goodIn_app (goodIn_of _ (by decide +kernel)) ggX12_from_X12_in
set_option maxRecDepth 20000 in
theorem ggX12_from_X12_bad : GoodIn wsX12_from wsX12_bad := goodIn_r _ [11, 12, 17, 18, 19, 20, 21, 22, 23, 24, 25, 26, 27, 28, 29, 30, 31, 32, 33, 34, 35] (by decide +kernel) (by decide +kernel)
set_option maxRecDepth 20000 in
theorem gX12_from_X12_bad : GoodIn wsX12_from (wsV RX12 71 RX12 yX12_bad wsX12_bad) := goodIn_app (goodIn_of _ (by decide +kernel)) ggX12_from_X12_bad
set_option maxRecDepth 20000 in
theorem ggX12_from_X12_no : GoodIn wsX12_from wsX12_no := goodIn_r _ [16, 12, 17, 18, 19, 20, 21, 22, 23, 24, 25, 26, 27, 28, 29, 30, 31, 32, 33, 34, 35] (by decide +kernel) (by decide +kernel)
set_option maxRecDepth 20000 in
theorem gX12_from_X12_no : GoodIn wsX12_from (wsV RX12 125 RX12 yX12_no wsX12_no) := goodIn_app (goodIn_of _ (by decide +kernel)) ggX12_from_X12_no
theorem dX12_from_0 : decode cX12_from 0 = .ok (.iload_n 1, 1) := by decide +kernel
theorem dX12_from_1 : decode cX12_from 1 = .ok (.i2l, 1) := by decide +kernel
theorem dX12_from_2 : decode cX12_from 2 = .ok (.lconst 0, 1) := by decide +kernel
theorem dX12_from_3 : decode cX12_from 3 = .ok (.lconst 1, 1) := by decide +kernel
theorem dX12_from_4 : decode cX12_from 4 = .ok (.invokestatic 55, 3) := by decide +kernel
theorem dX12_from_7 : decode cX12_from 7 = .ok (.ifCond .ne 10, 3) := by decide +kernel
theorem dX12_from_10 : decode cX12_from 10 = .ok (.aload_n 0, 1) := by decide +kernel
theorem dX12_from_11 : decode cX12_from 11 = .ok (.bipush (-2), 2) := by decide +kernel
theorem dX12_from_13 : decode cX12_from 13 = .ok (.invokevirtual 71, 3) := by decide +kernel
theorem dX12_from_16 : decode cX12_from 16 = .ok (.ireturn, 1) := by decide +kernel
theorem dX12_from_17 : decode cX12_from 17 = .ok (.aload_n 0, 1) := by decide +kernel
theorem dX12_from_18 : decode cX12_from 18 = .ok (.getfield 16, 3) := by decide +kernel
theorem dX12_from_21 : decode cX12_from 21 = .ok (.iload_n 1, 1) := by decide +kernel
theorem dX12_from_22 : decode cX12_from 22 = .ok (.baload, 1) := by decide +kernel
theorem dX12_from_23 : decode cX12_from 23 = .ok (.ifCond .ne 8, 3) := by decide +kernel
theorem dX12_from_26 : decode cX12_from 26 = .ok (.aload_n 0, 1) := by decide +kernel
theorem dX12_from_27 : decode cX12_from 27 = .ok (.invokevirtual 125, 3) := by decide +kernel
theorem dX12_from_30 : decode cX12_from 30 = .ok (.ireturn, 1) := by decide +kernel
theorem dX12_from_31 : decode cX12_from 31 = .ok (.iconst 0, 1) := by decide +kernel
theorem dX12_from_32 : decode cX12_from 32 = .ok (.istore_n 2, 1) := by decide +kernel
theorem dX12_from_33 : decode cX12_from 33 = .ok (.iload_n 2, 1) := by decide +kernel
theorem dX12_from_34 : decode cX12_from 34 = .ok (.sipush 256, 3) := by decide +kernel
theorem dX12_from_37 : decode cX12_from 37 = .ok (.if_icmp .ge 27, 3) := by decide +kernel
theorem dX12_from_40 : decode cX12_from 40 = .ok (.aload_n 0, 1) := by decide +kernel
theorem dX12_from_41 : decode cX12_from 41 = .ok (.getfield 7, 3) := by decide +kernel
theorem dX12_from_44 : decode cX12_from 44 = .ok (.iload_n 2, 1) := by decide +kernel
theorem dX12_from_45 : decode cX12_from 45 = .ok (.aload_n 0, 1) := by decide +kernel
theorem dX12_from_46 : decode cX12_from 46 = .ok (.getfield 13, 3) := by decide +kernel
theorem dX12_from_49 : decode cX12_from 49 = .ok (.sipush 256, 3) := by decide +kernel
theorem dX12_from_52 : decode cX12_from 52 = .ok (.iload_n 1, 1) := by decide +kernel
theorem dX12_from_53 : decode cX12_from 53 = .ok (.imul, 1) := by decide +kernel
theorem dX12_from_54 : decode cX12_from 54 = .ok (.iload_n 2, 1) := by decide +kernel
theorem dX12_from_55 : decode cX12_from 55 = .ok (.iadd, 1) := by decide +kernel
theorem dX12_from_56 : decode cX12_from 56 = .ok (.iaload, 1) := by decide +kernel
theorem dX12_from_57 : decode cX12_from 57 = .ok (.iastore, 1) := by decide +kernel
theorem dX12_from_58 : decode cX12_from 58 = .ok (.iinc 2 1, 3) := by decide +kernel
theorem dX12_from_61 : decode cX12_from 61 = .ok (.goto (-28), 3) := by decide +kernel
theorem dX12_from_64 : decode cX12_from 64 = .ok (.iconst 1, 1) := by decide +kernel
theorem dX12_from_65 : decode cX12_from 65 = .ok (.ireturn, 1) := by decide +kernel
set_option maxRecDepth 20000 in
theorem ggX12_status_X12_in : GoodIn wsX12_status wsX12_in := goodIn_r _ [6] (by decide +kernel) (by decide +kernel)
set_option maxRecDepth 20000 in
theorem gX12_status_X12_in : GoodIn wsX12_status (va_wsS RX12 55 yX12_in wsX12_in) := goodIn_app (goodIn_of _ (by decide +kernel)) ggX12_status_X12_in
set_option maxRecDepth 20000 in
theorem ggX12_status_X12_bad : GoodIn wsX12_status wsX12_bad := goodIn_r _ [10, 2, 11, 12, 13, 14, 15, 16, 17, 18, 19, 20, 21, 22, 23, 24, 25, 26, 27, 28, 29] (by decide +kernel) (by decide +kernel)
set_option maxRecDepth 20000 in
theorem gX12_status_X12_bad : GoodIn wsX12_status (wsV RX12 71 RX12 yX12_bad wsX12_bad) := goodIn_app (goodIn_of _ (by decide +kernel)) ggX12_status_X12_bad
theorem dX12_status_0 : decode cX12_status 0 = .ok (.iload_n 1, 1) := by decide +kernel
theorem dX12_status_1 : decode cX12_status 1 = .ok (.i2l, 1) := by decide +kernel
theorem dX12_status_2 : decode cX12_status 2 = .ok (.lconst 0, 1) := by decide +kernel
theorem dX12_status_3 : decode cX12_status 3 = .ok (.ldc2_w 174, 3) := by decide +kernel
theorem dX12_status_6 : decode cX12_status 6 = .ok (.invokestatic 55, 3) := by decide +kernel
theorem dX12_status_9 : decode cX12_status 9 = .ok (.ifCond .eq 12, 3) := by decide +kernel
theorem dX12_status_12 : decode cX12_status 12 = .ok (.aload_n 0, 1) := by decide +kernel
theorem dX12_status_13 : decode cX12_status 13 = .ok (.getfield 20, 3) := by decide +kernel
theorem dX12_status_16 : decode cX12_status 16 = .ok (.iload_n 1, 1) := by decide +kernel
theorem dX12_status_17 : decode cX12_status 17 = .ok (.iaload, 1) := by decide +kernel
theorem dX12_status_18 : decode cX12_status 18 = .ok (.goto 8, 3) := by decide +kernel
theorem dX12_status_21 : decode cX12_status 21 = .ok (.aload_n 0, 1) := by decide +kernel
theorem dX12_status_22 : decode cX12_status 22 = .ok (.iconst (-1), 1) := by decide +kernel
theorem dX12_status_23 : decode cX12_status 23 = .ok (.invokevirtual 71, 3) := by decide +kernel
theorem dX12_status_26 : decode cX12_status 26 = .ok (.ireturn, 1) := by decide +kernel
set_option maxRecDepth 20000 in
theorem ggX12_counted_X12_isGuilty : GoodIn wsX12_counted wsX12_isGuilty := goodIn_r _ [6, 7, 8, 5, 9] (by decide +kernel) (by decide +kernel)
set_option maxRecDepth 20000 in
theorem gX12_counted_X12_isGuilty : GoodIn wsX12_counted (va_wsS RX12 134 yX12_isGuilty wsX12_isGuilty) := goodIn_app (goodIn_of _ (by decide +kernel)) ggX12_counted_X12_isGuilty
set_option maxRecDepth 20000 in
theorem ggX12_counted_X12_many : GoodIn wsX12_counted wsX12_many := goodIn_r _ [13, 1, 17, 18, 19, 20, 21, 22, 23, 24, 25, 26, 27, 28, 29, 30, 31, 32, 33, 34, 35] (by decide +kernel) (by decide +kernel)
set_option maxRecDepth 20000 in
theorem gX12_counted_X12_many : GoodIn wsX12_counted (wsV RX12 59 RX12 yX12_many wsX12_many) := goodIn_app (goodIn_of _ (by decide +kernel)) ggX12_counted_X12_many
set_option maxRecDepth 20000 in
theorem ggX12_counted_X12_bits : GoodIn wsX12_counted wsX12_bits := goodIn_r _ [16] (by decide +kernel) (by decide +kernel)
set_option maxRecDepth 20000 in
theorem gX12_counted_X12_bits : GoodIn wsX12_counted (va_wsS RX12 163 yX12_bits wsX12_bits) := goodIn_app (goodIn_of _ (by decide +kernel)) ggX12_counted_X12_bits
theorem dX12_counted_0 : decode cX12_counted 0 = .ok (.iconst 0, 1) := by decide +kernel
theorem dX12_counted_1 : decode cX12_counted 1 = .ok (.istore_n 2, 1) := by decide +kernel
theorem dX12_counted_2 : decode cX12_counted 2 = .ok (.iconst 0, 1) := by decide +kernel
theorem dX12_counted_3 : decode cX12_counted 3 = .ok (.istore_n 3, 1) := by decide +kernel
theorem dX12_counted_4 : decode cX12_counted 4 = .ok (.iconst 0, 1) := by decide +kernel
theorem dX12_counted_5 : decode cX12_counted 5 = .ok (.istore 4, 2) := by decide +kernel
theorem dX12_counted_7 : decode cX12_counted 7 = .ok (.iload 4, 2) := by decide +kernel
theorem dX12_counted_9 : decode cX12_counted 9 = .ok (.aload_n 0, 1) := by decide +kernel
theorem dX12_counted_10 : decode cX12_counted 10 = .ok (.getfield 7, 3) := by decide +kernel
theorem dX12_counted_13 : decode cX12_counted 13 = .ok (.iconst 0, 1) := by decide +kernel
theorem dX12_counted_14 : decode cX12_counted 14 = .ok (.iaload, 1) := by decide +kernel
theorem dX12_counted_15 : decode cX12_counted 15 = .ok (.if_icmp .ge 42, 3) := by decide +kernel
theorem dX12_counted_18 : decode cX12_counted 18 = .ok (.iload_n 2, 1) := by decide +kernel
theorem dX12_counted_19 : decode cX12_counted 19 = .ok (.aload_n 0, 1) := by decide +kernel
theorem dX12_counted_20 : decode cX12_counted 20 = .ok (.getfield 7, 3) := by decide +kernel
theorem dX12_counted_23 : decode cX12_counted 23 = .ok (.iload 4, 2) := by decide +kernel
theorem dX12_counted_25 : decode cX12_counted 25 = .ok (.invokestatic 134, 3) := by decide +kernel
theorem dX12_counted_28 : decode cX12_counted 28 = .ok (.ifCond .eq 7, 3) := by decide +kernel
theorem dX12_counted_31 : decode cX12_counted 31 = .ok (.iconst 1, 1) := by decide +kernel
theorem dX12_counted_32 : decode cX12_counted 32 = .ok (.goto 4, 3) := by decide +kernel
theorem dX12_counted_35 : decode cX12_counted 35 = .ok (.iconst 0, 1) := by decide +kernel
theorem dX12_counted_36 : decode cX12_counted 36 = .ok (.iadd, 1) := by decide +kernel
theorem dX12_counted_37 : decode cX12_counted 37 = .ok (.istore_n 2, 1) := by decide +kernel
theorem dX12_counted_38 : decode cX12_counted 38 = .ok (.iload_n 3, 1) := by decide +kernel
theorem dX12_counted_39 : decode cX12_counted 39 = .ok (.aload_n 0, 1) := by decide +kernel
theorem dX12_counted_40 : decode cX12_counted 40 = .ok (.getfield 7, 3) := by decide +kernel
theorem dX12_counted_43 : decode cX12_counted 43 = .ok (.bipush 6, 2) := by decide +kernel
theorem dX12_counted_45 : decode cX12_counted 45 = .ok (.iload 4, 2) := by decide +kernel
theorem dX12_counted_47 : decode cX12_counted 47 = .ok (.iadd, 1) := by decide +kernel
theorem dX12_counted_48 : decode cX12_counted 48 = .ok (.iaload, 1) := by decide +kernel
theorem dX12_counted_49 : decode cX12_counted 49 = .ok (.iadd, 1) := by decide +kernel
theorem dX12_counted_50 : decode cX12_counted 50 = .ok (.istore_n 3, 1) := by decide +kernel
theorem dX12_counted_51 : decode cX12_counted 51 = .ok (.iinc 4 1, 3) := by decide +kernel
theorem dX12_counted_54 : decode cX12_counted 54 = .ok (.goto (-47), 3) := by decide +kernel
theorem dX12_counted_57 : decode cX12_counted 57 = .ok (.iload_n 1, 1) := by decide +kernel
theorem dX12_counted_58 : decode cX12_counted 58 = .ok (.tableswitch 98 0 10 #[58, 65, 70, 81, 83, 91, 98, 98, 98, 98, 93], 58) := by decide +kernel
theorem dX12_counted_116 : decode cX12_counted 116 = .ok (.aload_n 0, 1) := by decide +kernel
theorem dX12_counted_117 : decode cX12_counted 117 = .ok (.getfield 7, 3) := by decide +kernel
theorem dX12_counted_120 : decode cX12_counted 120 = .ok (.iconst 0, 1) := by decide +kernel
theorem dX12_counted_121 : decode cX12_counted 121 = .ok (.iaload, 1) := by decide +kernel
theorem dX12_counted_122 : decode cX12_counted 122 = .ok (.ireturn, 1) := by decide +kernel
theorem dX12_counted_123 : decode cX12_counted 123 = .ok (.aload_n 0, 1) := by decide +kernel
theorem dX12_counted_124 : decode cX12_counted 124 = .ok (.invokevirtual 59, 3) := by decide +kernel
theorem dX12_counted_127 : decode cX12_counted 127 = .ok (.ireturn, 1) := by decide +kernel
theorem dX12_counted_128 : decode cX12_counted 128 = .ok (.aload_n 0, 1) := by decide +kernel
theorem dX12_counted_129 : decode cX12_counted 129 = .ok (.getfield 7, 3) := by decide +kernel
theorem dX12_counted_132 : decode cX12_counted 132 = .ok (.bipush 20, 2) := by decide +kernel
theorem dX12_counted_134 : decode cX12_counted 134 = .ok (.iaload, 1) := by decide +kernel
theorem dX12_counted_135 : decode cX12_counted 135 = .ok (.invokestatic 163, 3) := by decide +kernel
theorem dX12_counted_138 : decode cX12_counted 138 = .ok (.ireturn, 1) := by decide +kernel
theorem dX12_counted_139 : decode cX12_counted 139 = .ok (.iload_n 2, 1) := by decide +kernel
theorem dX12_counted_140 : decode cX12_counted 140 = .ok (.ireturn, 1) := by decide +kernel
theorem dX12_counted_141 : decode cX12_counted 141 = .ok (.aload_n 0, 1) := by decide +kernel
theorem dX12_counted_142 : decode cX12_counted 142 = .ok (.getfield 7, 3) := by decide +kernel
theorem dX12_counted_145 : decode cX12_counted 145 = .ok (.bipush 21, 2) := by decide +kernel
theorem dX12_counted_147 : decode cX12_counted 147 = .ok (.iaload, 1) := by decide +kernel
theorem dX12_counted_148 : decode cX12_counted 148 = .ok (.ireturn, 1) := by decide +kernel
theorem dX12_counted_149 : decode cX12_counted 149 = .ok (.iload_n 3, 1) := by decide +kernel
theorem dX12_counted_150 : decode cX12_counted 150 = .ok (.ireturn, 1) := by decide +kernel
theorem dX12_counted_151 : decode cX12_counted 151 = .ok (.aload_n 0, 1) := by decide +kernel
theorem dX12_counted_152 : decode cX12_counted 152 = .ok (.getfield 221, 3) := by decide +kernel
theorem dX12_counted_155 : decode cX12_counted 155 = .ok (.ireturn, 1) := by decide +kernel
theorem dX12_counted_156 : decode cX12_counted 156 = .ok (.aload_n 0, 1) := by decide +kernel
theorem dX12_counted_157 : decode cX12_counted 157 = .ok (.getfield 7, 3) := by decide +kernel
theorem dX12_counted_160 : decode cX12_counted 160 = .ok (.iconst 2, 1) := by decide +kernel
theorem dX12_counted_161 : decode cX12_counted 161 = .ok (.iload_n 1, 1) := by decide +kernel
theorem dX12_counted_162 : decode cX12_counted 162 = .ok (.iadd, 1) := by decide +kernel
theorem dX12_counted_163 : decode cX12_counted 163 = .ok (.bipush 6, 2) := by decide +kernel
theorem dX12_counted_165 : decode cX12_counted 165 = .ok (.isub, 1) := by decide +kernel
theorem dX12_counted_166 : decode cX12_counted 166 = .ok (.iaload, 1) := by decide +kernel
theorem dX12_counted_167 : decode cX12_counted 167 = .ok (.ireturn, 1) := by decide +kernel
set_option maxRecDepth 20000 in
theorem ggX12_count_X12_in : GoodIn wsX12_count wsX12_in := goodIn_r _ [5] (by decide +kernel) (by decide +kernel)
set_option maxRecDepth 20000 in
theorem gX12_count_X12_in : GoodIn wsX12_count (va_wsS RX12 55 yX12_in wsX12_in) := goodIn_app (goodIn_of _ (by decide +kernel)) ggX12_count_X12_in
set_option maxRecDepth 20000 in
theorem ggX12_count_X12_counted : GoodIn wsX12_count wsX12_counted := goodIn_r _ [9, 10, 11, 12, 13, 4, 14, 15, 16, 17, 18, 19, 20, 21, 22, 23, 24, 30, 31, 32, 33, 34, 35, 36, 37, 38, 39, 40, 41, 42, 43, 44, 45, 46, 47, 48] (by decide +kernel) (by decide +kernel)
set_option maxRecDepth 20000 in
theorem gX12_count_X12_counted : GoodIn wsX12_count (wsV RX12 282 RX12 yX12_counted wsX12_counted) := goodIn_app (goodIn_of _ (by decide +kernel)) ggX12_count_X12_counted
set_option maxRecDepth 20000 in
theorem ggX12_count_X12_bad : GoodIn wsX12_count wsX12_bad := goodIn_r _ [28, 29, 30, 31, 32, 33, 34, 35, 36, 37, 38, 39, 40, 41, 42, 43, 44, 45, 46, 47, 48] (by decide +kernel) (by decide +kernel)
set_option maxRecDepth 20000 in
theorem gX12_count_X12_bad : GoodIn wsX12_count (wsV RX12 71 RX12 yX12_bad wsX12_bad) := goodIn_app (goodIn_of _ (by decide +kernel)) ggX12_count_X12_bad
theorem dX12_count_0 : decode cX12_count 0 = .ok (.iload_n 1, 1) := by decide +kernel
theorem dX12_count_1 : decode cX12_count 1 = .ok (.i2l, 1) := by decide +kernel
theorem dX12_count_2 : decode cX12_count 2 = .ok (.lconst 0, 1) := by decide +kernel
theorem dX12_count_3 : decode cX12_count 3 = .ok (.ldc2_w 201, 3) := by decide +kernel
theorem dX12_count_6 : decode cX12_count 6 = .ok (.invokestatic 55, 3) := by decide +kernel
theorem dX12_count_9 : decode cX12_count 9 = .ok (.ifCond .eq 11, 3) := by decide +kernel
theorem dX12_count_12 : decode cX12_count 12 = .ok (.aload_n 0, 1) := by decide +kernel
theorem dX12_count_13 : decode cX12_count 13 = .ok (.iload_n 1, 1) := by decide +kernel
theorem dX12_count_14 : decode cX12_count 14 = .ok (.invokevirtual 282, 3) := by decide +kernel
theorem dX12_count_17 : decode cX12_count 17 = .ok (.goto 9, 3) := by decide +kernel
theorem dX12_count_20 : decode cX12_count 20 = .ok (.aload_n 0, 1) := by decide +kernel
theorem dX12_count_21 : decode cX12_count 21 = .ok (.bipush (-2), 2) := by decide +kernel
theorem dX12_count_23 : decode cX12_count 23 = .ok (.invokevirtual 71, 3) := by decide +kernel
theorem dX12_count_26 : decode cX12_count 26 = .ok (.ireturn, 1) := by decide +kernel
theorem dX12_sums_0 : decode cX12_sums 0 = .ok (.lload_n 1, 1) := by decide +kernel
theorem dX12_sums_1 : decode cX12_sums 1 = .ok (.lstore 5, 2) := by decide +kernel
theorem dX12_sums_3 : decode cX12_sums 3 = .ok (.iconst 0, 1) := by decide +kernel
theorem dX12_sums_4 : decode cX12_sums 4 = .ok (.istore 7, 2) := by decide +kernel
theorem dX12_sums_6 : decode cX12_sums 6 = .ok (.iload 7, 2) := by decide +kernel
theorem dX12_sums_8 : decode cX12_sums 8 = .ok (.iload 4, 2) := by decide +kernel
theorem dX12_sums_10 : decode cX12_sums 10 = .ok (.if_icmp .ge 28, 3) := by decide +kernel
theorem dX12_sums_13 : decode cX12_sums 13 = .ok (.ldc2_w 285, 3) := by decide +kernel
theorem dX12_sums_16 : decode cX12_sums 16 = .ok (.lload 5, 2) := by decide +kernel
theorem dX12_sums_18 : decode cX12_sums 18 = .ok (.lmul, 1) := by decide +kernel
theorem dX12_sums_19 : decode cX12_sums 19 = .ok (.aload_n 0, 1) := by decide +kernel
theorem dX12_sums_20 : decode cX12_sums 20 = .ok (.getfield 7, 3) := by decide +kernel
theorem dX12_sums_23 : decode cX12_sums 23 = .ok (.iload_n 3, 1) := by decide +kernel
theorem dX12_sums_24 : decode cX12_sums 24 = .ok (.iload 7, 2) := by decide +kernel
theorem dX12_sums_26 : decode cX12_sums 26 = .ok (.iadd, 1) := by decide +kernel
theorem dX12_sums_27 : decode cX12_sums 27 = .ok (.iaload, 1) := by decide +kernel
theorem dX12_sums_28 : decode cX12_sums 28 = .ok (.i2l, 1) := by decide +kernel
theorem dX12_sums_29 : decode cX12_sums 29 = .ok (.ladd, 1) := by decide +kernel
theorem dX12_sums_30 : decode cX12_sums 30 = .ok (.lstore 5, 2) := by decide +kernel
theorem dX12_sums_32 : decode cX12_sums 32 = .ok (.iinc 7 1, 3) := by decide +kernel
theorem dX12_sums_35 : decode cX12_sums 35 = .ok (.goto (-29), 3) := by decide +kernel
theorem dX12_sums_38 : decode cX12_sums 38 = .ok (.lload 5, 2) := by decide +kernel
theorem dX12_sums_40 : decode cX12_sums 40 = .ok (.lreturn, 1) := by decide +kernel
set_option maxRecDepth 20000 in
theorem ggX12_digest_X12_counted : GoodIn wsX12_digest wsX12_counted := goodIn_r _ [10, 3, 11, 12, 13, 9, 14, 15, 16, 17, 18, 19, 20, 21, 22, 23, 24, 39, 40, 41, 42, 43, 44, 45, 46, 47, 48, 49, 50, 51, 52, 53, 54, 55, 56, 57] (by decide +kernel) (by decide +kernel)
set_option maxRecDepth 20000 in
theorem gX12_digest_X12_counted : GoodIn wsX12_digest (wsV RX12 282 RX12 yX12_counted wsX12_counted) := goodIn_app (goodIn_of _ (by decide +kernel)) ggX12_digest_X12_counted
set_option maxRecDepth 20000 in
theorem ggX12_digest_X12_many : GoodIn wsX12_digest wsX12_many := goodIn_r _ [21, 3, 39, 40, 41, 42, 43, 44, 45, 46, 47, 48, 49, 50, 51, 52, 53, 54, 55, 56, 57] (by decide +kernel) (by decide +kernel)
set_option maxRecDepth 20000 in
theorem gX12_digest_X12_many : GoodIn wsX12_digest (wsV RX12 59 RX12 yX12_many wsX12_many) := goodIn_app (goodIn_of _ (by decide +kernel)) ggX12_digest_X12_many
set_option maxRecDepth 20000 in
theorem ggX12_digest_X12_toldOf : GoodIn wsX12_digest wsX12_toldOf := goodIn_r _ [28, 3, 29, 30, 9, 31, 32, 33, 34, 39, 40, 41, 42, 43, 44, 45, 46, 47, 48, 49, 50, 51, 52, 53, 54, 55, 56, 57] (by decide +kernel) (by decide +kernel)
set_option maxRecDepth 20000 in
theorem gX12_digest_X12_toldOf : GoodIn wsX12_digest (wsV RX12 139 RX12 yX12_toldOf wsX12_toldOf) := goodIn_app (goodIn_of _ (by decide +kernel)) ggX12_digest_X12_toldOf
set_option maxRecDepth 20000 in
theorem ggX12_digest_X12_sums : GoodIn wsX12_digest wsX12_sums := goodIn_r _ [38, 2, 3, 39, 40, 41, 42, 43, 44, 45, 46, 47, 48, 49, 50, 51, 52, 53, 54, 55, 56, 57] (by decide +kernel) (by decide +kernel)
set_option maxRecDepth 20000 in
theorem gX12_digest_X12_sums : GoodIn wsX12_digest (wsV RX12 289 RX12 yX12_sums wsX12_sums) := goodIn_app (goodIn_of _ (by decide +kernel)) ggX12_digest_X12_sums
theorem dX12_digest_0 : decode cX12_digest 0 = .ok (.ldc2_w 287, 3) := by decide +kernel
theorem dX12_digest_3 : decode cX12_digest 3 = .ok (.lstore_n 1, 1) := by decide +kernel
theorem dX12_digest_4 : decode cX12_digest 4 = .ok (.iconst 0, 1) := by decide +kernel
theorem dX12_digest_5 : decode cX12_digest 5 = .ok (.istore_n 3, 1) := by decide +kernel
theorem dX12_digest_6 : decode cX12_digest 6 = .ok (.iload_n 3, 1) := by decide +kernel
theorem dX12_digest_7 : decode cX12_digest 7 = .ok (.bipush 11, 2) := by decide +kernel
theorem dX12_digest_9 : decode cX12_digest 9 = .ok (.if_icmp .ge 22, 3) := by decide +kernel
theorem dX12_digest_12 : decode cX12_digest 12 = .ok (.ldc2_w 285, 3) := by decide +kernel
theorem dX12_digest_15 : decode cX12_digest 15 = .ok (.lload_n 1, 1) := by decide +kernel
theorem dX12_digest_16 : decode cX12_digest 16 = .ok (.lmul, 1) := by decide +kernel
theorem dX12_digest_17 : decode cX12_digest 17 = .ok (.aload_n 0, 1) := by decide +kernel
theorem dX12_digest_18 : decode cX12_digest 18 = .ok (.iload_n 3, 1) := by decide +kernel
theorem dX12_digest_19 : decode cX12_digest 19 = .ok (.invokevirtual 282, 3) := by decide +kernel
theorem dX12_digest_22 : decode cX12_digest 22 = .ok (.i2l, 1) := by decide +kernel
theorem dX12_digest_23 : decode cX12_digest 23 = .ok (.ladd, 1) := by decide +kernel
theorem dX12_digest_24 : decode cX12_digest 24 = .ok (.lstore_n 1, 1) := by decide +kernel
theorem dX12_digest_25 : decode cX12_digest 25 = .ok (.iinc 3 1, 3) := by decide +kernel
theorem dX12_digest_28 : decode cX12_digest 28 = .ok (.goto (-22), 3) := by decide +kernel
theorem dX12_digest_31 : decode cX12_digest 31 = .ok (.iconst 0, 1) := by decide +kernel
theorem dX12_digest_32 : decode cX12_digest 32 = .ok (.istore_n 3, 1) := by decide +kernel
theorem dX12_digest_33 : decode cX12_digest 33 = .ok (.iload_n 3, 1) := by decide +kernel
theorem dX12_digest_34 : decode cX12_digest 34 = .ok (.aload_n 0, 1) := by decide +kernel
theorem dX12_digest_35 : decode cX12_digest 35 = .ok (.getfield 7, 3) := by decide +kernel
theorem dX12_digest_38 : decode cX12_digest 38 = .ok (.iconst 0, 1) := by decide +kernel
theorem dX12_digest_39 : decode cX12_digest 39 = .ok (.iaload, 1) := by decide +kernel
theorem dX12_digest_40 : decode cX12_digest 40 = .ok (.if_icmp .ge 41, 3) := by decide +kernel
theorem dX12_digest_43 : decode cX12_digest 43 = .ok (.ldc2_w 285, 3) := by decide +kernel
theorem dX12_digest_46 : decode cX12_digest 46 = .ok (.ldc2_w 285, 3) := by decide +kernel
theorem dX12_digest_49 : decode cX12_digest 49 = .ok (.lload_n 1, 1) := by decide +kernel
theorem dX12_digest_50 : decode cX12_digest 50 = .ok (.lmul, 1) := by decide +kernel
theorem dX12_digest_51 : decode cX12_digest 51 = .ok (.aload_n 0, 1) := by decide +kernel
theorem dX12_digest_52 : decode cX12_digest 52 = .ok (.getfield 7, 3) := by decide +kernel
theorem dX12_digest_55 : decode cX12_digest 55 = .ok (.bipush 22, 2) := by decide +kernel
theorem dX12_digest_57 : decode cX12_digest 57 = .ok (.iload_n 3, 1) := by decide +kernel
theorem dX12_digest_58 : decode cX12_digest 58 = .ok (.iadd, 1) := by decide +kernel
theorem dX12_digest_59 : decode cX12_digest 59 = .ok (.iaload, 1) := by decide +kernel
theorem dX12_digest_60 : decode cX12_digest 60 = .ok (.i2l, 1) := by decide +kernel
theorem dX12_digest_61 : decode cX12_digest 61 = .ok (.ladd, 1) := by decide +kernel
theorem dX12_digest_62 : decode cX12_digest 62 = .ok (.lmul, 1) := by decide +kernel
theorem dX12_digest_63 : decode cX12_digest 63 = .ok (.aload_n 0, 1) := by decide +kernel
theorem dX12_digest_64 : decode cX12_digest 64 = .ok (.getfield 7, 3) := by decide +kernel
theorem dX12_digest_67 : decode cX12_digest 67 = .ok (.bipush 6, 2) := by decide +kernel
theorem dX12_digest_69 : decode cX12_digest 69 = .ok (.iload_n 3, 1) := by decide +kernel
theorem dX12_digest_70 : decode cX12_digest 70 = .ok (.iadd, 1) := by decide +kernel
theorem dX12_digest_71 : decode cX12_digest 71 = .ok (.iaload, 1) := by decide +kernel
theorem dX12_digest_72 : decode cX12_digest 72 = .ok (.i2l, 1) := by decide +kernel
theorem dX12_digest_73 : decode cX12_digest 73 = .ok (.ladd, 1) := by decide +kernel
theorem dX12_digest_74 : decode cX12_digest 74 = .ok (.lstore_n 1, 1) := by decide +kernel
theorem dX12_digest_75 : decode cX12_digest 75 = .ok (.iinc 3 1, 3) := by decide +kernel
theorem dX12_digest_78 : decode cX12_digest 78 = .ok (.goto (-45), 3) := by decide +kernel
theorem dX12_digest_81 : decode cX12_digest 81 = .ok (.iconst 0, 1) := by decide +kernel
theorem dX12_digest_82 : decode cX12_digest 82 = .ok (.istore_n 3, 1) := by decide +kernel
theorem dX12_digest_83 : decode cX12_digest 83 = .ok (.iload_n 3, 1) := by decide +kernel
theorem dX12_digest_84 : decode cX12_digest 84 = .ok (.aload_n 0, 1) := by decide +kernel
theorem dX12_digest_85 : decode cX12_digest 85 = .ok (.invokevirtual 59, 3) := by decide +kernel
theorem dX12_digest_88 : decode cX12_digest 88 = .ok (.if_icmp .ge 40, 3) := by decide +kernel
theorem dX12_digest_91 : decode cX12_digest 91 = .ok (.iconst 0, 1) := by decide +kernel
theorem dX12_digest_92 : decode cX12_digest 92 = .ok (.istore 4, 2) := by decide +kernel
theorem dX12_digest_94 : decode cX12_digest 94 = .ok (.iload 4, 2) := by decide +kernel
theorem dX12_digest_96 : decode cX12_digest 96 = .ok (.bipush 6, 2) := by decide +kernel
theorem dX12_digest_98 : decode cX12_digest 98 = .ok (.if_icmp .ge 24, 3) := by decide +kernel
theorem dX12_digest_101 : decode cX12_digest 101 = .ok (.ldc2_w 285, 3) := by decide +kernel
theorem dX12_digest_104 : decode cX12_digest 104 = .ok (.lload_n 1, 1) := by decide +kernel
theorem dX12_digest_105 : decode cX12_digest 105 = .ok (.lmul, 1) := by decide +kernel
theorem dX12_digest_106 : decode cX12_digest 106 = .ok (.aload_n 0, 1) := by decide +kernel
theorem dX12_digest_107 : decode cX12_digest 107 = .ok (.iload_n 3, 1) := by decide +kernel
theorem dX12_digest_108 : decode cX12_digest 108 = .ok (.iload 4, 2) := by decide +kernel
theorem dX12_digest_110 : decode cX12_digest 110 = .ok (.invokevirtual 139, 3) := by decide +kernel
theorem dX12_digest_113 : decode cX12_digest 113 = .ok (.i2l, 1) := by decide +kernel
theorem dX12_digest_114 : decode cX12_digest 114 = .ok (.ladd, 1) := by decide +kernel
theorem dX12_digest_115 : decode cX12_digest 115 = .ok (.lstore_n 1, 1) := by decide +kernel
theorem dX12_digest_116 : decode cX12_digest 116 = .ok (.iinc 4 1, 3) := by decide +kernel
theorem dX12_digest_119 : decode cX12_digest 119 = .ok (.goto (-25), 3) := by decide +kernel
theorem dX12_digest_122 : decode cX12_digest 122 = .ok (.iinc 3 1, 3) := by decide +kernel
theorem dX12_digest_125 : decode cX12_digest 125 = .ok (.goto (-42), 3) := by decide +kernel
theorem dX12_digest_128 : decode cX12_digest 128 = .ok (.aload_n 0, 1) := by decide +kernel
theorem dX12_digest_129 : decode cX12_digest 129 = .ok (.lload_n 1, 1) := by decide +kernel
theorem dX12_digest_130 : decode cX12_digest 130 = .ok (.bipush 60, 2) := by decide +kernel
theorem dX12_digest_132 : decode cX12_digest 132 = .ok (.iconst 4, 1) := by decide +kernel
theorem dX12_digest_133 : decode cX12_digest 133 = .ok (.aload_n 0, 1) := by decide +kernel
theorem dX12_digest_134 : decode cX12_digest 134 = .ok (.getfield 7, 3) := by decide +kernel
theorem dX12_digest_137 : decode cX12_digest 137 = .ok (.iconst 2, 1) := by decide +kernel
theorem dX12_digest_138 : decode cX12_digest 138 = .ok (.iaload, 1) := by decide +kernel
theorem dX12_digest_139 : decode cX12_digest 139 = .ok (.imul, 1) := by decide +kernel
theorem dX12_digest_140 : decode cX12_digest 140 = .ok (.invokevirtual 289, 3) := by decide +kernel
theorem dX12_digest_143 : decode cX12_digest 143 = .ok (.lstore_n 1, 1) := by decide +kernel
theorem dX12_digest_144 : decode cX12_digest 144 = .ok (.aload_n 0, 1) := by decide +kernel
theorem dX12_digest_145 : decode cX12_digest 145 = .ok (.lload_n 1, 1) := by decide +kernel
theorem dX12_digest_146 : decode cX12_digest 146 = .ok (.bipush 80, 2) := by decide +kernel
theorem dX12_digest_148 : decode cX12_digest 148 = .ok (.iconst 4, 1) := by decide +kernel
theorem dX12_digest_149 : decode cX12_digest 149 = .ok (.aload_n 0, 1) := by decide +kernel
theorem dX12_digest_150 : decode cX12_digest 150 = .ok (.getfield 7, 3) := by decide +kernel
theorem dX12_digest_153 : decode cX12_digest 153 = .ok (.iconst 3, 1) := by decide +kernel
theorem dX12_digest_154 : decode cX12_digest 154 = .ok (.iaload, 1) := by decide +kernel
theorem dX12_digest_155 : decode cX12_digest 155 = .ok (.imul, 1) := by decide +kernel
theorem dX12_digest_156 : decode cX12_digest 156 = .ok (.invokevirtual 289, 3) := by decide +kernel
theorem dX12_digest_159 : decode cX12_digest 159 = .ok (.lstore_n 1, 1) := by decide +kernel
theorem dX12_digest_160 : decode cX12_digest 160 = .ok (.aload_n 0, 1) := by decide +kernel
theorem dX12_digest_161 : decode cX12_digest 161 = .ok (.lload_n 1, 1) := by decide +kernel
theorem dX12_digest_162 : decode cX12_digest 162 = .ok (.bipush 104, 2) := by decide +kernel
theorem dX12_digest_164 : decode cX12_digest 164 = .ok (.iconst 4, 1) := by decide +kernel
theorem dX12_digest_165 : decode cX12_digest 165 = .ok (.aload_n 0, 1) := by decide +kernel
theorem dX12_digest_166 : decode cX12_digest 166 = .ok (.getfield 7, 3) := by decide +kernel
theorem dX12_digest_169 : decode cX12_digest 169 = .ok (.iconst 4, 1) := by decide +kernel
theorem dX12_digest_170 : decode cX12_digest 170 = .ok (.iaload, 1) := by decide +kernel
theorem dX12_digest_171 : decode cX12_digest 171 = .ok (.imul, 1) := by decide +kernel
theorem dX12_digest_172 : decode cX12_digest 172 = .ok (.invokevirtual 289, 3) := by decide +kernel
theorem dX12_digest_175 : decode cX12_digest 175 = .ok (.lstore_n 1, 1) := by decide +kernel
theorem dX12_digest_176 : decode cX12_digest 176 = .ok (.ldc2_w 285, 3) := by decide +kernel
theorem dX12_digest_179 : decode cX12_digest 179 = .ok (.ldc2_w 285, 3) := by decide +kernel
theorem dX12_digest_182 : decode cX12_digest 182 = .ok (.lload_n 1, 1) := by decide +kernel
theorem dX12_digest_183 : decode cX12_digest 183 = .ok (.lmul, 1) := by decide +kernel
theorem dX12_digest_184 : decode cX12_digest 184 = .ok (.aload_n 0, 1) := by decide +kernel
theorem dX12_digest_185 : decode cX12_digest 185 = .ok (.getfield 198, 3) := by decide +kernel
theorem dX12_digest_188 : decode cX12_digest 188 = .ok (.ladd, 1) := by decide +kernel
theorem dX12_digest_189 : decode cX12_digest 189 = .ok (.lmul, 1) := by decide +kernel
theorem dX12_digest_190 : decode cX12_digest 190 = .ok (.aload_n 0, 1) := by decide +kernel
theorem dX12_digest_191 : decode cX12_digest 191 = .ok (.getfield 23, 3) := by decide +kernel
theorem dX12_digest_194 : decode cX12_digest 194 = .ok (.ladd, 1) := by decide +kernel
theorem dX12_digest_195 : decode cX12_digest 195 = .ok (.lreturn, 1) := by decide +kernel
