theorem dX0_init_0 : decode cX0_init 0 = .ok (.aload_n 0, 1) := by decide +kernel
theorem dX0_init_1 : decode cX0_init 1 = .ok (.invokespecial 3, 3) := by decide +kernel
theorem dX0_init_4 : decode cX0_init 4 = .ok (.aload_n 0, 1) := by decide +kernel
theorem dX0_init_5 : decode cX0_init 5 = .ok (.lconst 1, 1) := by decide +kernel
theorem dX0_init_6 : decode cX0_init 6 = .ok (.putfield 9, 3) := by decide +kernel
theorem dX0_init_9 : decode cX0_init 9 = .ok (.return_, 1) := by decide +kernel
set_option maxRecDepth 20000 in
theorem ggX0_ofRust_J6_bitCount_0f7a4 : GoodIn wsX0_ofRust wsJ6_bitCount_0f7a4 := goodIn_r _ [5, 6, 7, 8] (by decide +kernel) (by decide +kernel)
set_option maxRecDepth 20000 in
theorem gX0_ofRust_J6_bitCount_0f7a4 : GoodIn wsX0_ofRust (va_wsS RX0 15 yJ6_bitCount_0f7a4 wsJ6_bitCount_0f7a4) := goodIn_app (goodIn_of _ (by decide +kernel)) ggX0_ofRust_J6_bitCount_0f7a4
set_option maxRecDepth 20000 in
theorem ggX0_ofRust_X0_couldBehind : GoodIn wsX0_ofRust wsX0_couldBehind := goodIn_r _ [12, 13, 14, 15, 16, 17, 18, 19, 20, 21, 22, 23, 24, 25, 26, 27, 28, 29, 30, 31, 32, 33, 34, 35, 36, 37, 38, 39, 40, 41, 42, 43, 44, 45, 46, 47, 48, 49, 50, 51, 52, 53, 54, 55, 56, 57, 58, 71, 72, 73, 74, 75, 76, 77, 78, 79, 80, 81, 82, 83, 84, 85] (by decide +kernel) (by decide +kernel)
set_option maxRecDepth 20000 in
theorem gX0_ofRust_X0_couldBehind : GoodIn wsX0_ofRust (va_wsS RX0 23 yX0_couldBehind wsX0_couldBehind) := goodIn_app (goodIn_of _ (by decide +kernel)) ggX0_ofRust_X0_couldBehind
set_option maxRecDepth 20000 in
theorem ggX0_ofRust_X0_ways : GoodIn wsX0_ofRust wsX0_ways := goodIn_r _ [61, 14, 15, 16] (by decide +kernel) (by decide +kernel)
set_option maxRecDepth 20000 in
theorem gX0_ofRust_X0_ways : GoodIn wsX0_ofRust (va_wsS RX0 27 yX0_ways wsX0_ways) := goodIn_app (goodIn_of _ (by decide +kernel)) ggX0_ofRust_X0_ways
set_option maxRecDepth 20000 in
theorem ggX0_ofRust_X0_set : GoodIn wsX0_ofRust wsX0_set := goodIn_r _ [65, 66, 67, 68, 69, 11, 70, 86, 87] (by decide +kernel) (by decide +kernel)
set_option maxRecDepth 20000 in
theorem gX0_ofRust_X0_set : GoodIn wsX0_ofRust (wsV RX0 31 RX0 yX0_set wsX0_set) := goodIn_app (goodIn_of _ (by decide +kernel)) ggX0_ofRust_X0_set
theorem dX0_ofRust_0 : decode cX0_ofRust 0 = .ok (.lconst 0, 1) := by decide +kernel
theorem dX0_ofRust_1 : decode cX0_ofRust 1 = .ok (.lstore 5, 2) := by decide +kernel
theorem dX0_ofRust_3 : decode cX0_ofRust 3 = .ok (.lconst 1, 1) := by decide +kernel
theorem dX0_ofRust_4 : decode cX0_ofRust 4 = .ok (.lstore 7, 2) := by decide +kernel
theorem dX0_ofRust_6 : decode cX0_ofRust 6 = .ok (.iconst 0, 1) := by decide +kernel
theorem dX0_ofRust_7 : decode cX0_ofRust 7 = .ok (.istore 9, 2) := by decide +kernel
theorem dX0_ofRust_9 : decode cX0_ofRust 9 = .ok (.iload 9, 2) := by decide +kernel
theorem dX0_ofRust_11 : decode cX0_ofRust 11 = .ok (.iload_n 3, 1) := by decide +kernel
theorem dX0_ofRust_12 : decode cX0_ofRust 12 = .ok (.invokestatic 15, 3) := by decide +kernel
theorem dX0_ofRust_15 : decode cX0_ofRust 15 = .ok (.if_icmp .ge 17, 3) := by decide +kernel
theorem dX0_ofRust_18 : decode cX0_ofRust 18 = .ok (.lload 7, 2) := by decide +kernel
theorem dX0_ofRust_20 : decode cX0_ofRust 20 = .ok (.ldc2_w 21, 3) := by decide +kernel
theorem dX0_ofRust_23 : decode cX0_ofRust 23 = .ok (.lmul, 1) := by decide +kernel
theorem dX0_ofRust_24 : decode cX0_ofRust 24 = .ok (.lstore 7, 2) := by decide +kernel
theorem dX0_ofRust_26 : decode cX0_ofRust 26 = .ok (.iinc 9 1, 3) := by decide +kernel
theorem dX0_ofRust_29 : decode cX0_ofRust 29 = .ok (.goto (-20), 3) := by decide +kernel
theorem dX0_ofRust_32 : decode cX0_ofRust 32 = .ok (.iconst 0, 1) := by decide +kernel
theorem dX0_ofRust_33 : decode cX0_ofRust 33 = .ok (.istore 9, 2) := by decide +kernel
theorem dX0_ofRust_35 : decode cX0_ofRust 35 = .ok (.iload 9, 2) := by decide +kernel
theorem dX0_ofRust_37 : decode cX0_ofRust 37 = .ok (.iload_n 3, 1) := by decide +kernel
theorem dX0_ofRust_38 : decode cX0_ofRust 38 = .ok (.if_icmp .gt 42, 3) := by decide +kernel
theorem dX0_ofRust_41 : decode cX0_ofRust 41 = .ok (.iload 9, 2) := by decide +kernel
theorem dX0_ofRust_43 : decode cX0_ofRust 43 = .ok (.iload_n 3, 1) := by decide +kernel
theorem dX0_ofRust_44 : decode cX0_ofRust 44 = .ok (.iconst (-1), 1) := by decide +kernel
theorem dX0_ofRust_45 : decode cX0_ofRust 45 = .ok (.ixor, 1) := by decide +kernel
theorem dX0_ofRust_46 : decode cX0_ofRust 46 = .ok (.iand, 1) := by decide +kernel
theorem dX0_ofRust_47 : decode cX0_ofRust 47 = .ok (.ifCond .ne 27, 3) := by decide +kernel
theorem dX0_ofRust_50 : decode cX0_ofRust 50 = .ok (.aload_n 1, 1) := by decide +kernel
theorem dX0_ofRust_51 : decode cX0_ofRust 51 = .ok (.iload_n 2, 1) := by decide +kernel
theorem dX0_ofRust_52 : decode cX0_ofRust 52 = .ok (.iload_n 3, 1) := by decide +kernel
theorem dX0_ofRust_53 : decode cX0_ofRust 53 = .ok (.iload 9, 2) := by decide +kernel
theorem dX0_ofRust_55 : decode cX0_ofRust 55 = .ok (.invokestatic 23, 3) := by decide +kernel
theorem dX0_ofRust_58 : decode cX0_ofRust 58 = .ok (.ifCond .eq 16, 3) := by decide +kernel
theorem dX0_ofRust_61 : decode cX0_ofRust 61 = .ok (.lload 5, 2) := by decide +kernel
theorem dX0_ofRust_63 : decode cX0_ofRust 63 = .ok (.iload_n 3, 1) := by decide +kernel
theorem dX0_ofRust_64 : decode cX0_ofRust 64 = .ok (.iload 9, 2) := by decide +kernel
theorem dX0_ofRust_66 : decode cX0_ofRust 66 = .ok (.iload 4, 2) := by decide +kernel
theorem dX0_ofRust_68 : decode cX0_ofRust 68 = .ok (.invokestatic 27, 3) := by decide +kernel
theorem dX0_ofRust_71 : decode cX0_ofRust 71 = .ok (.ladd, 1) := by decide +kernel
theorem dX0_ofRust_72 : decode cX0_ofRust 72 = .ok (.lstore 5, 2) := by decide +kernel
theorem dX0_ofRust_74 : decode cX0_ofRust 74 = .ok (.iinc 9 1, 3) := by decide +kernel
theorem dX0_ofRust_77 : decode cX0_ofRust 77 = .ok (.goto (-42), 3) := by decide +kernel
theorem dX0_ofRust_80 : decode cX0_ofRust 80 = .ok (.aload_n 0, 1) := by decide +kernel
theorem dX0_ofRust_81 : decode cX0_ofRust 81 = .ok (.lload 5, 2) := by decide +kernel
theorem dX0_ofRust_83 : decode cX0_ofRust 83 = .ok (.lload 7, 2) := by decide +kernel
theorem dX0_ofRust_85 : decode cX0_ofRust 85 = .ok (.invokevirtual 31, 3) := by decide +kernel
theorem dX0_ofRust_88 : decode cX0_ofRust 88 = .ok (.return_, 1) := by decide +kernel
set_option maxRecDepth 20000 in
theorem ggX0_couldBehind_X11_holds : GoodIn wsX0_couldBehind wsX11_holds := goodIn_r _ [4] (by decide +kernel) (by decide +kernel)
set_option maxRecDepth 20000 in
theorem gX0_couldBehind_X11_holds_n41 : GoodIn wsX0_couldBehind (wsX11_holds) := ggX0_couldBehind_X11_holds
set_option maxRecDepth 20000 in
theorem ggX0_couldBehind_X10_could : GoodIn wsX0_couldBehind wsX10_could := goodIn_r _ [9, 10, 11, 2, 3, 4, 12, 13, 14, 8, 15, 16, 17, 18, 19, 20, 21, 22, 23, 24, 25, 26, 27, 28, 29, 30, 31, 32, 33, 34, 35, 36, 37, 38, 39, 40, 41, 42, 43, 44, 45, 46, 47, 48, 49, 50, 51, 52, 53, 54, 55, 56, 57, 58, 59, 60, 61] (by decide +kernel) (by decide +kernel)
set_option maxRecDepth 20000 in
theorem gX0_couldBehind_X10_could : GoodIn wsX0_couldBehind (wsV RX0 45 RX10 yX10_could wsX10_could) := goodIn_app (goodIn_of _ (by decide +kernel)) ggX0_couldBehind_X10_could
theorem dX0_couldBehind_0 : decode cX0_couldBehind 0 = .ok (.iconst 0, 1) := by decide +kernel
theorem dX0_couldBehind_1 : decode cX0_couldBehind 1 = .ok (.istore 4, 2) := by decide +kernel
theorem dX0_couldBehind_3 : decode cX0_couldBehind 3 = .ok (.iconst 0, 1) := by decide +kernel
theorem dX0_couldBehind_4 : decode cX0_couldBehind 4 = .ok (.istore 5, 2) := by decide +kernel
theorem dX0_couldBehind_6 : decode cX0_couldBehind 6 = .ok (.iload 5, 2) := by decide +kernel
theorem dX0_couldBehind_8 : decode cX0_couldBehind 8 = .ok (.aload_n 0, 1) := by decide +kernel
theorem dX0_couldBehind_9 : decode cX0_couldBehind 9 = .ok (.getfield 35, 3) := by decide +kernel
theorem dX0_couldBehind_12 : decode cX0_couldBehind 12 = .ok (.if_icmp .ge 49, 3) := by decide +kernel
theorem dX0_couldBehind_15 : decode cX0_couldBehind 15 = .ok (.iload_n 2, 1) := by decide +kernel
theorem dX0_couldBehind_16 : decode cX0_couldBehind 16 = .ok (.iload 5, 2) := by decide +kernel
theorem dX0_couldBehind_18 : decode cX0_couldBehind 18 = .ok (.invokestatic 41, 3) := by decide +kernel
theorem dX0_couldBehind_21 : decode cX0_couldBehind 21 = .ok (.ifCond .eq 34, 3) := by decide +kernel
theorem dX0_couldBehind_24 : decode cX0_couldBehind 24 = .ok (.iload_n 3, 1) := by decide +kernel
theorem dX0_couldBehind_25 : decode cX0_couldBehind 25 = .ok (.iload 5, 2) := by decide +kernel
theorem dX0_couldBehind_27 : decode cX0_couldBehind 27 = .ok (.invokestatic 41, 3) := by decide +kernel
theorem dX0_couldBehind_30 : decode cX0_couldBehind 30 = .ok (.ifCond .ne 25, 3) := by decide +kernel
theorem dX0_couldBehind_33 : decode cX0_couldBehind 33 = .ok (.aload_n 0, 1) := by decide +kernel
theorem dX0_couldBehind_34 : decode cX0_couldBehind 34 = .ok (.iload 5, 2) := by decide +kernel
theorem dX0_couldBehind_36 : decode cX0_couldBehind 36 = .ok (.iconst 0, 1) := by decide +kernel
theorem dX0_couldBehind_37 : decode cX0_couldBehind 37 = .ok (.iload 4, 2) := by decide +kernel
theorem dX0_couldBehind_39 : decode cX0_couldBehind 39 = .ok (.iconst 0, 1) := by decide +kernel
theorem dX0_couldBehind_40 : decode cX0_couldBehind 40 = .ok (.invokevirtual 45, 3) := by decide +kernel
theorem dX0_couldBehind_43 : decode cX0_couldBehind 43 = .ok (.ifCond .eq 12, 3) := by decide +kernel
theorem dX0_couldBehind_46 : decode cX0_couldBehind 46 = .ok (.iload 4, 2) := by decide +kernel
theorem dX0_couldBehind_48 : decode cX0_couldBehind 48 = .ok (.iconst 1, 1) := by decide +kernel
theorem dX0_couldBehind_49 : decode cX0_couldBehind 49 = .ok (.iload 5, 2) := by decide +kernel
theorem dX0_couldBehind_51 : decode cX0_couldBehind 51 = .ok (.ishl, 1) := by decide +kernel
theorem dX0_couldBehind_52 : decode cX0_couldBehind 52 = .ok (.ior, 1) := by decide +kernel
theorem dX0_couldBehind_53 : decode cX0_couldBehind 53 = .ok (.istore 4, 2) := by decide +kernel
theorem dX0_couldBehind_55 : decode cX0_couldBehind 55 = .ok (.iinc 5 1, 3) := by decide +kernel
theorem dX0_couldBehind_58 : decode cX0_couldBehind 58 = .ok (.goto (-52), 3) := by decide +kernel
theorem dX0_couldBehind_61 : decode cX0_couldBehind 61 = .ok (.aload_n 0, 1) := by decide +kernel
theorem dX0_couldBehind_62 : decode cX0_couldBehind 62 = .ok (.iload_n 1, 1) := by decide +kernel
theorem dX0_couldBehind_63 : decode cX0_couldBehind 63 = .ok (.iconst 0, 1) := by decide +kernel
theorem dX0_couldBehind_64 : decode cX0_couldBehind 64 = .ok (.iload 4, 2) := by decide +kernel
theorem dX0_couldBehind_66 : decode cX0_couldBehind 66 = .ok (.iconst 0, 1) := by decide +kernel
theorem dX0_couldBehind_67 : decode cX0_couldBehind 67 = .ok (.invokevirtual 45, 3) := by decide +kernel
theorem dX0_couldBehind_70 : decode cX0_couldBehind 70 = .ok (.ireturn, 1) := by decide +kernel
set_option maxRecDepth 20000 in
theorem ggX0_ways_X11_holds : GoodIn wsX0_ways wsX11_holds := goodIn_r _ [3] (by decide +kernel) (by decide +kernel)
set_option maxRecDepth 20000 in
theorem gX0_ways_X11_holds_n41 : GoodIn wsX0_ways (wsX11_holds) := ggX0_ways_X11_holds
theorem dX0_ways_0 : decode cX0_ways 0 = .ok (.lconst 1, 1) := by decide +kernel
theorem dX0_ways_1 : decode cX0_ways 1 = .ok (.lstore_n 3, 1) := by decide +kernel
theorem dX0_ways_2 : decode cX0_ways 2 = .ok (.iconst 0, 1) := by decide +kernel
theorem dX0_ways_3 : decode cX0_ways 3 = .ok (.istore 5, 2) := by decide +kernel
theorem dX0_ways_5 : decode cX0_ways 5 = .ok (.iload 5, 2) := by decide +kernel
theorem dX0_ways_7 : decode cX0_ways 7 = .ok (.bipush 8, 2) := by decide +kernel
theorem dX0_ways_9 : decode cX0_ways 9 = .ok (.if_icmp .ge 40, 3) := by decide +kernel
theorem dX0_ways_12 : decode cX0_ways 12 = .ok (.iload_n 0, 1) := by decide +kernel
theorem dX0_ways_13 : decode cX0_ways 13 = .ok (.iload 5, 2) := by decide +kernel
theorem dX0_ways_15 : decode cX0_ways 15 = .ok (.invokestatic 41, 3) := by decide +kernel
theorem dX0_ways_18 : decode cX0_ways 18 = .ok (.ifCond .eq 25, 3) := by decide +kernel
theorem dX0_ways_21 : decode cX0_ways 21 = .ok (.lload_n 3, 1) := by decide +kernel
theorem dX0_ways_22 : decode cX0_ways 22 = .ok (.iload_n 1, 1) := by decide +kernel
theorem dX0_ways_23 : decode cX0_ways 23 = .ok (.iload 5, 2) := by decide +kernel
theorem dX0_ways_25 : decode cX0_ways 25 = .ok (.invokestatic 41, 3) := by decide +kernel
theorem dX0_ways_28 : decode cX0_ways 28 = .ok (.ifCond .eq 8, 3) := by decide +kernel
theorem dX0_ways_31 : decode cX0_ways 31 = .ok (.iload_n 2, 1) := by decide +kernel
theorem dX0_ways_32 : decode cX0_ways 32 = .ok (.i2l, 1) := by decide +kernel
theorem dX0_ways_33 : decode cX0_ways 33 = .ok (.goto 8, 3) := by decide +kernel
theorem dX0_ways_36 : decode cX0_ways 36 = .ok (.bipush 10, 2) := by decide +kernel
theorem dX0_ways_38 : decode cX0_ways 38 = .ok (.iload_n 2, 1) := by decide +kernel
theorem dX0_ways_39 : decode cX0_ways 39 = .ok (.isub, 1) := by decide +kernel
theorem dX0_ways_40 : decode cX0_ways 40 = .ok (.i2l, 1) := by decide +kernel
theorem dX0_ways_41 : decode cX0_ways 41 = .ok (.lmul, 1) := by decide +kernel
theorem dX0_ways_42 : decode cX0_ways 42 = .ok (.lstore_n 3, 1) := by decide +kernel
theorem dX0_ways_43 : decode cX0_ways 43 = .ok (.iinc 5 1, 3) := by decide +kernel
theorem dX0_ways_46 : decode cX0_ways 46 = .ok (.goto (-41), 3) := by decide +kernel
theorem dX0_ways_49 : decode cX0_ways 49 = .ok (.lload_n 3, 1) := by decide +kernel
theorem dX0_ways_50 : decode cX0_ways 50 = .ok (.lreturn, 1) := by decide +kernel
set_option maxRecDepth 20000 in
theorem ggX0_set_X0_greatestDivisor : GoodIn wsX0_set wsX0_greatestDivisor := goodIn_r _ [6] (by decide +kernel) (by decide +kernel)
set_option maxRecDepth 20000 in
theorem gX0_set_X0_greatestDivisor : GoodIn wsX0_set (va_wsS RX0 49 yX0_greatestDivisor wsX0_greatestDivisor) := goodIn_app (goodIn_of _ (by decide +kernel)) ggX0_set_X0_greatestDivisor
theorem dX0_set_0 : decode cX0_set 0 = .ok (.lload_n 1, 1) := by decide +kernel
theorem dX0_set_1 : decode cX0_set 1 = .ok (.lload_n 3, 1) := by decide +kernel
theorem dX0_set_2 : decode cX0_set 2 = .ok (.invokestatic 49, 3) := by decide +kernel
theorem dX0_set_5 : decode cX0_set 5 = .ok (.lstore 5, 2) := by decide +kernel
theorem dX0_set_7 : decode cX0_set 7 = .ok (.aload_n 0, 1) := by decide +kernel
theorem dX0_set_8 : decode cX0_set 8 = .ok (.lload 5, 2) := by decide +kernel
theorem dX0_set_10 : decode cX0_set 10 = .ok (.lconst 1, 1) := by decide +kernel
theorem dX0_set_11 : decode cX0_set 11 = .ok (.lcmp, 1) := by decide +kernel
theorem dX0_set_12 : decode cX0_set 12 = .ok (.ifCond .le 10, 3) := by decide +kernel
theorem dX0_set_15 : decode cX0_set 15 = .ok (.lload_n 1, 1) := by decide +kernel
theorem dX0_set_16 : decode cX0_set 16 = .ok (.lload 5, 2) := by decide +kernel
theorem dX0_set_18 : decode cX0_set 18 = .ok (.ldiv, 1) := by decide +kernel
theorem dX0_set_19 : decode cX0_set 19 = .ok (.goto 4, 3) := by decide +kernel
theorem dX0_set_22 : decode cX0_set 22 = .ok (.lload_n 1, 1) := by decide +kernel
theorem dX0_set_23 : decode cX0_set 23 = .ok (.putfield 53, 3) := by decide +kernel
theorem dX0_set_26 : decode cX0_set 26 = .ok (.aload_n 0, 1) := by decide +kernel
theorem dX0_set_27 : decode cX0_set 27 = .ok (.lload 5, 2) := by decide +kernel
theorem dX0_set_29 : decode cX0_set 29 = .ok (.lconst 1, 1) := by decide +kernel
theorem dX0_set_30 : decode cX0_set 30 = .ok (.lcmp, 1) := by decide +kernel
theorem dX0_set_31 : decode cX0_set 31 = .ok (.ifCond .le 10, 3) := by decide +kernel
theorem dX0_set_34 : decode cX0_set 34 = .ok (.lload_n 3, 1) := by decide +kernel
theorem dX0_set_35 : decode cX0_set 35 = .ok (.lload 5, 2) := by decide +kernel
theorem dX0_set_37 : decode cX0_set 37 = .ok (.ldiv, 1) := by decide +kernel
theorem dX0_set_38 : decode cX0_set 38 = .ok (.goto 4, 3) := by decide +kernel
theorem dX0_set_41 : decode cX0_set 41 = .ok (.lload_n 3, 1) := by decide +kernel
theorem dX0_set_42 : decode cX0_set 42 = .ok (.putfield 9, 3) := by decide +kernel
theorem dX0_set_45 : decode cX0_set 45 = .ok (.return_, 1) := by decide +kernel
theorem dX0_greatestDivisor_0 : decode cX0_greatestDivisor 0 = .ok (.lload_n 0, 1) := by decide +kernel
theorem dX0_greatestDivisor_1 : decode cX0_greatestDivisor 1 = .ok (.lstore 4, 2) := by decide +kernel
theorem dX0_greatestDivisor_3 : decode cX0_greatestDivisor 3 = .ok (.lload_n 2, 1) := by decide +kernel
theorem dX0_greatestDivisor_4 : decode cX0_greatestDivisor 4 = .ok (.lstore 6, 2) := by decide +kernel
theorem dX0_greatestDivisor_6 : decode cX0_greatestDivisor 6 = .ok (.iconst 0, 1) := by decide +kernel
theorem dX0_greatestDivisor_7 : decode cX0_greatestDivisor 7 = .ok (.istore 8, 2) := by decide +kernel
theorem dX0_greatestDivisor_9 : decode cX0_greatestDivisor 9 = .ok (.iload 8, 2) := by decide +kernel
theorem dX0_greatestDivisor_11 : decode cX0_greatestDivisor 11 = .ok (.sipush 1000, 3) := by decide +kernel
theorem dX0_greatestDivisor_14 : decode cX0_greatestDivisor 14 = .ok (.if_icmp .ge 31, 3) := by decide +kernel
theorem dX0_greatestDivisor_17 : decode cX0_greatestDivisor 17 = .ok (.lload 6, 2) := by decide +kernel
theorem dX0_greatestDivisor_19 : decode cX0_greatestDivisor 19 = .ok (.lconst 0, 1) := by decide +kernel
theorem dX0_greatestDivisor_20 : decode cX0_greatestDivisor 20 = .ok (.lcmp, 1) := by decide +kernel
theorem dX0_greatestDivisor_21 : decode cX0_greatestDivisor 21 = .ok (.ifCond .eq 24, 3) := by decide +kernel
theorem dX0_greatestDivisor_24 : decode cX0_greatestDivisor 24 = .ok (.lload 4, 2) := by decide +kernel
theorem dX0_greatestDivisor_26 : decode cX0_greatestDivisor 26 = .ok (.lload 6, 2) := by decide +kernel
theorem dX0_greatestDivisor_28 : decode cX0_greatestDivisor 28 = .ok (.lrem, 1) := by decide +kernel
theorem dX0_greatestDivisor_29 : decode cX0_greatestDivisor 29 = .ok (.lstore 9, 2) := by decide +kernel
theorem dX0_greatestDivisor_31 : decode cX0_greatestDivisor 31 = .ok (.lload 6, 2) := by decide +kernel
theorem dX0_greatestDivisor_33 : decode cX0_greatestDivisor 33 = .ok (.lstore 4, 2) := by decide +kernel
theorem dX0_greatestDivisor_35 : decode cX0_greatestDivisor 35 = .ok (.lload 9, 2) := by decide +kernel
theorem dX0_greatestDivisor_37 : decode cX0_greatestDivisor 37 = .ok (.lstore 6, 2) := by decide +kernel
theorem dX0_greatestDivisor_39 : decode cX0_greatestDivisor 39 = .ok (.iinc 8 1, 3) := by decide +kernel
theorem dX0_greatestDivisor_42 : decode cX0_greatestDivisor 42 = .ok (.goto (-33), 3) := by decide +kernel
theorem dX0_greatestDivisor_45 : decode cX0_greatestDivisor 45 = .ok (.lload 4, 2) := by decide +kernel
theorem dX0_greatestDivisor_47 : decode cX0_greatestDivisor 47 = .ok (.lreturn, 1) := by decide +kernel
theorem dX1_init_0 : decode cX1_init 0 = .ok (.aload_n 0, 1) := by decide +kernel
theorem dX1_init_1 : decode cX1_init 1 = .ok (.invokespecial 3, 3) := by decide +kernel
theorem dX1_init_4 : decode cX1_init 4 = .ok (.aload_n 0, 1) := by decide +kernel
theorem dX1_init_5 : decode cX1_init 5 = .ok (.bipush 6, 2) := by decide +kernel
theorem dX1_init_7 : decode cX1_init 7 = .ok (.newarray .int, 2) := by decide +kernel
theorem dX1_init_9 : decode cX1_init 9 = .ok (.putfield 9, 3) := by decide +kernel
theorem dX1_init_12 : decode cX1_init 12 = .ok (.return_, 1) := by decide +kernel
set_option maxRecDepth 20000 in
theorem ggX1_gravities_X1_fitsAllSeen : GoodIn wsX1_gravities wsX1_fitsAllSeen := goodIn_r _ [4, 5, 6, 7, 8, 9, 10, 11, 12, 13, 14, 15, 16, 17, 18, 19, 20, 21, 22, 23, 24, 25, 26, 27, 28, 29, 30, 31, 32, 33, 34, 35, 36, 37, 38, 39, 40, 41, 42] (by decide +kernel) (by decide +kernel)
set_option maxRecDepth 20000 in
theorem gX1_gravities_X1_fitsAllSeen : GoodIn wsX1_gravities (va_wsS RX1 15 yX1_fitsAllSeen wsX1_fitsAllSeen) := goodIn_app (goodIn_of _ (by decide +kernel)) ggX1_gravities_X1_fitsAllSeen
theorem dX1_gravities_0 : decode cX1_gravities 0 = .ok (.iconst 0, 1) := by decide +kernel
theorem dX1_gravities_1 : decode cX1_gravities 1 = .ok (.istore_n 2, 1) := by decide +kernel
theorem dX1_gravities_2 : decode cX1_gravities 2 = .ok (.iconst 1, 1) := by decide +kernel
theorem dX1_gravities_3 : decode cX1_gravities 3 = .ok (.istore_n 3, 1) := by decide +kernel
theorem dX1_gravities_4 : decode cX1_gravities 4 = .ok (.iload_n 3, 1) := by decide +kernel
theorem dX1_gravities_5 : decode cX1_gravities 5 = .ok (.bipush 9, 2) := by decide +kernel
theorem dX1_gravities_7 : decode cX1_gravities 7 = .ok (.if_icmp .gt 24, 3) := by decide +kernel
theorem dX1_gravities_10 : decode cX1_gravities 10 = .ok (.aload_n 0, 1) := by decide +kernel
theorem dX1_gravities_11 : decode cX1_gravities 11 = .ok (.iload_n 1, 1) := by decide +kernel
theorem dX1_gravities_12 : decode cX1_gravities 12 = .ok (.iload_n 3, 1) := by decide +kernel
theorem dX1_gravities_13 : decode cX1_gravities 13 = .ok (.invokestatic 15, 3) := by decide +kernel
theorem dX1_gravities_16 : decode cX1_gravities 16 = .ok (.ifCond .eq 9, 3) := by decide +kernel
theorem dX1_gravities_19 : decode cX1_gravities 19 = .ok (.iload_n 2, 1) := by decide +kernel
theorem dX1_gravities_20 : decode cX1_gravities 20 = .ok (.iconst 1, 1) := by decide +kernel
theorem dX1_gravities_21 : decode cX1_gravities 21 = .ok (.iload_n 3, 1) := by decide +kernel
theorem dX1_gravities_22 : decode cX1_gravities 22 = .ok (.ishl, 1) := by decide +kernel
theorem dX1_gravities_23 : decode cX1_gravities 23 = .ok (.ior, 1) := by decide +kernel
theorem dX1_gravities_24 : decode cX1_gravities 24 = .ok (.istore_n 2, 1) := by decide +kernel
theorem dX1_gravities_25 : decode cX1_gravities 25 = .ok (.iinc 3 1, 3) := by decide +kernel
theorem dX1_gravities_28 : decode cX1_gravities 28 = .ok (.goto (-24), 3) := by decide +kernel
theorem dX1_gravities_31 : decode cX1_gravities 31 = .ok (.iload_n 2, 1) := by decide +kernel
theorem dX1_gravities_32 : decode cX1_gravities 32 = .ok (.ireturn, 1) := by decide +kernel
set_option maxRecDepth 20000 in
theorem ggX1_fitsAllSeen_X7_cell : GoodIn wsX1_fitsAllSeen wsX7_cell := goodIn_r _ [8, 9, 36, 37, 38] (by decide +kernel) (by decide +kernel)
set_option maxRecDepth 20000 in
theorem gX1_fitsAllSeen_X7_cell : GoodIn wsX1_fitsAllSeen (wsV RX1 31 RX7 yX7_cell wsX7_cell) := goodIn_app (goodIn_of _ (by decide +kernel)) ggX1_fitsAllSeen_X7_cell
set_option maxRecDepth 20000 in
theorem ggX1_fitsAllSeen_X2_weight : GoodIn wsX1_fitsAllSeen wsX2_weight := goodIn_r _ [13, 14, 15, 16, 17, 18, 19, 20] (by decide +kernel) (by decide +kernel)
set_option maxRecDepth 20000 in
theorem gX1_fitsAllSeen_X2_weight : GoodIn wsX1_fitsAllSeen (va_wsS RX1 38 yX2_weight wsX2_weight) := goodIn_app (goodIn_of _ (by decide +kernel)) ggX1_fitsAllSeen_X2_weight
theorem dX1_fitsAllSeen_0 : decode cX1_fitsAllSeen 0 = .ok (.iconst 0, 1) := by decide +kernel
theorem dX1_fitsAllSeen_1 : decode cX1_fitsAllSeen 1 = .ok (.istore_n 3, 1) := by decide +kernel
theorem dX1_fitsAllSeen_2 : decode cX1_fitsAllSeen 2 = .ok (.iload_n 3, 1) := by decide +kernel
theorem dX1_fitsAllSeen_3 : decode cX1_fitsAllSeen 3 = .ok (.aload_n 0, 1) := by decide +kernel
theorem dX1_fitsAllSeen_4 : decode cX1_fitsAllSeen 4 = .ok (.getfield 19, 3) := by decide +kernel
theorem dX1_fitsAllSeen_7 : decode cX1_fitsAllSeen 7 = .ok (.getfield 25, 3) := by decide +kernel
theorem dX1_fitsAllSeen_10 : decode cX1_fitsAllSeen 10 = .ok (.if_icmp .ge 89, 3) := by decide +kernel
theorem dX1_fitsAllSeen_13 : decode cX1_fitsAllSeen 13 = .ok (.aload_n 0, 1) := by decide +kernel
theorem dX1_fitsAllSeen_14 : decode cX1_fitsAllSeen 14 = .ok (.getfield 19, 3) := by decide +kernel
theorem dX1_fitsAllSeen_17 : decode cX1_fitsAllSeen 17 = .ok (.iload_n 3, 1) := by decide +kernel
theorem dX1_fitsAllSeen_18 : decode cX1_fitsAllSeen 18 = .ok (.iconst 0, 1) := by decide +kernel
theorem dX1_fitsAllSeen_19 : decode cX1_fitsAllSeen 19 = .ok (.invokevirtual 31, 3) := by decide +kernel
theorem dX1_fitsAllSeen_22 : decode cX1_fitsAllSeen 22 = .ok (.iload_n 1, 1) := by decide +kernel
theorem dX1_fitsAllSeen_23 : decode cX1_fitsAllSeen 23 = .ok (.if_icmp .ne 70, 3) := by decide +kernel
theorem dX1_fitsAllSeen_26 : decode cX1_fitsAllSeen 26 = .ok (.aload_n 0, 1) := by decide +kernel
theorem dX1_fitsAllSeen_27 : decode cX1_fitsAllSeen 27 = .ok (.getfield 35, 3) := by decide +kernel
theorem dX1_fitsAllSeen_30 : decode cX1_fitsAllSeen 30 = .ok (.iload_n 1, 1) := by decide +kernel
theorem dX1_fitsAllSeen_31 : decode cX1_fitsAllSeen 31 = .ok (.iaload, 1) := by decide +kernel
theorem dX1_fitsAllSeen_32 : decode cX1_fitsAllSeen 32 = .ok (.iload_n 2, 1) := by decide +kernel
theorem dX1_fitsAllSeen_33 : decode cX1_fitsAllSeen 33 = .ok (.aload_n 0, 1) := by decide +kernel
theorem dX1_fitsAllSeen_34 : decode cX1_fitsAllSeen 34 = .ok (.getfield 19, 3) := by decide +kernel
theorem dX1_fitsAllSeen_37 : decode cX1_fitsAllSeen 37 = .ok (.iload_n 3, 1) := by decide +kernel
theorem dX1_fitsAllSeen_38 : decode cX1_fitsAllSeen 38 = .ok (.iconst 1, 1) := by decide +kernel
theorem dX1_fitsAllSeen_39 : decode cX1_fitsAllSeen 39 = .ok (.invokevirtual 31, 3) := by decide +kernel
theorem dX1_fitsAllSeen_42 : decode cX1_fitsAllSeen 42 = .ok (.invokestatic 38, 3) := by decide +kernel
theorem dX1_fitsAllSeen_45 : decode cX1_fitsAllSeen 45 = .ok (.istore 4, 2) := by decide +kernel
theorem dX1_fitsAllSeen_47 : decode cX1_fitsAllSeen 47 = .ok (.aload_n 0, 1) := by decide +kernel
theorem dX1_fitsAllSeen_48 : decode cX1_fitsAllSeen 48 = .ok (.getfield 19, 3) := by decide +kernel
theorem dX1_fitsAllSeen_51 : decode cX1_fitsAllSeen 51 = .ok (.iload_n 3, 1) := by decide +kernel
theorem dX1_fitsAllSeen_52 : decode cX1_fitsAllSeen 52 = .ok (.iconst 3, 1) := by decide +kernel
theorem dX1_fitsAllSeen_53 : decode cX1_fitsAllSeen 53 = .ok (.invokevirtual 31, 3) := by decide +kernel
theorem dX1_fitsAllSeen_56 : decode cX1_fitsAllSeen 56 = .ok (.iconst 1, 1) := by decide +kernel
theorem dX1_fitsAllSeen_57 : decode cX1_fitsAllSeen 57 = .ok (.if_icmp .ne 7, 3) := by decide +kernel
theorem dX1_fitsAllSeen_60 : decode cX1_fitsAllSeen 60 = .ok (.iconst 1, 1) := by decide +kernel
theorem dX1_fitsAllSeen_61 : decode cX1_fitsAllSeen 61 = .ok (.goto 4, 3) := by decide +kernel
theorem dX1_fitsAllSeen_64 : decode cX1_fitsAllSeen 64 = .ok (.iconst 0, 1) := by decide +kernel
theorem dX1_fitsAllSeen_65 : decode cX1_fitsAllSeen 65 = .ok (.istore 5, 2) := by decide +kernel
theorem dX1_fitsAllSeen_67 : decode cX1_fitsAllSeen 67 = .ok (.iload 4, 2) := by decide +kernel
theorem dX1_fitsAllSeen_69 : decode cX1_fitsAllSeen 69 = .ok (.aload_n 0, 1) := by decide +kernel
theorem dX1_fitsAllSeen_70 : decode cX1_fitsAllSeen 70 = .ok (.getfield 19, 3) := by decide +kernel
theorem dX1_fitsAllSeen_73 : decode cX1_fitsAllSeen 73 = .ok (.iload_n 3, 1) := by decide +kernel
theorem dX1_fitsAllSeen_74 : decode cX1_fitsAllSeen 74 = .ok (.iconst 2, 1) := by decide +kernel
theorem dX1_fitsAllSeen_75 : decode cX1_fitsAllSeen 75 = .ok (.invokevirtual 31, 3) := by decide +kernel
theorem dX1_fitsAllSeen_78 : decode cX1_fitsAllSeen 78 = .ok (.if_icmp .gt 7, 3) := by decide +kernel
theorem dX1_fitsAllSeen_81 : decode cX1_fitsAllSeen 81 = .ok (.iconst 1, 1) := by decide +kernel
theorem dX1_fitsAllSeen_82 : decode cX1_fitsAllSeen 82 = .ok (.goto 4, 3) := by decide +kernel
theorem dX1_fitsAllSeen_85 : decode cX1_fitsAllSeen 85 = .ok (.iconst 0, 1) := by decide +kernel
theorem dX1_fitsAllSeen_86 : decode cX1_fitsAllSeen 86 = .ok (.iload 5, 2) := by decide +kernel
theorem dX1_fitsAllSeen_88 : decode cX1_fitsAllSeen 88 = .ok (.if_icmp .eq 5, 3) := by decide +kernel
theorem dX1_fitsAllSeen_91 : decode cX1_fitsAllSeen 91 = .ok (.iconst 0, 1) := by decide +kernel
theorem dX1_fitsAllSeen_92 : decode cX1_fitsAllSeen 92 = .ok (.ireturn, 1) := by decide +kernel
theorem dX1_fitsAllSeen_93 : decode cX1_fitsAllSeen 93 = .ok (.iinc 3 1, 3) := by decide +kernel
theorem dX1_fitsAllSeen_96 : decode cX1_fitsAllSeen 96 = .ok (.goto (-94), 3) := by decide +kernel
theorem dX1_fitsAllSeen_99 : decode cX1_fitsAllSeen 99 = .ok (.iconst 1, 1) := by decide +kernel
theorem dX1_fitsAllSeen_100 : decode cX1_fitsAllSeen 100 = .ok (.ireturn, 1) := by decide +kernel
set_option maxRecDepth 20000 in
theorem ggX1_nextSight_X1_gravities : GoodIn wsX1_nextSight wsX1_gravities := goodIn_r _ [5, 6, 7, 4, 8, 9, 10, 1, 11, 12, 13, 14, 15, 16, 17, 18, 19, 20, 21, 22, 23, 24, 25, 26, 27, 35, 36, 37, 38, 39, 40, 41, 42, 43, 44, 45, 46, 47, 48, 49, 50, 51, 52] (by decide +kernel) (by decide +kernel)
set_option maxRecDepth 20000 in
theorem gX1_nextSight_X1_gravities : GoodIn wsX1_nextSight (va_wsS RX1 44 yX1_gravities wsX1_gravities) := goodIn_app (goodIn_of _ (by decide +kernel)) ggX1_nextSight_X1_gravities
set_option maxRecDepth 20000 in
theorem ggX1_nextSight_X1_greaterPart : GoodIn wsX1_nextSight wsX1_greaterPart := goodIn_r _ [30, 31, 22, 23, 24, 32, 33, 34, 17, 18, 19, 20, 21, 25, 26, 27] (by decide +kernel) (by decide +kernel)
set_option maxRecDepth 20000 in
theorem gX1_nextSight_X1_greaterPart : GoodIn wsX1_nextSight (va_wsS RX1 48 yX1_greaterPart wsX1_greaterPart) := goodIn_app (goodIn_of _ (by decide +kernel)) ggX1_nextSight_X1_greaterPart
theorem dX1_nextSight_0 : decode cX1_nextSight 0 = .ok (.aload_n 0, 1) := by decide +kernel
theorem dX1_nextSight_1 : decode cX1_nextSight 1 = .ok (.iload_n 1, 1) := by decide +kernel
theorem dX1_nextSight_2 : decode cX1_nextSight 2 = .ok (.invokestatic 44, 3) := by decide +kernel
theorem dX1_nextSight_5 : decode cX1_nextSight 5 = .ok (.istore_n 2, 1) := by decide +kernel
theorem dX1_nextSight_6 : decode cX1_nextSight 6 = .ok (.iload_n 2, 1) := by decide +kernel
theorem dX1_nextSight_7 : decode cX1_nextSight 7 = .ok (.ifCond .ne 5, 3) := by decide +kernel
theorem dX1_nextSight_10 : decode cX1_nextSight 10 = .ok (.iconst (-1), 1) := by decide +kernel
theorem dX1_nextSight_11 : decode cX1_nextSight 11 = .ok (.ireturn, 1) := by decide +kernel
theorem dX1_nextSight_12 : decode cX1_nextSight 12 = .ok (.iconst (-1), 1) := by decide +kernel
theorem dX1_nextSight_13 : decode cX1_nextSight 13 = .ok (.istore_n 3, 1) := by decide +kernel
theorem dX1_nextSight_14 : decode cX1_nextSight 14 = .ok (.bipush 100, 2) := by decide +kernel
theorem dX1_nextSight_16 : decode cX1_nextSight 16 = .ok (.istore 4, 2) := by decide +kernel
theorem dX1_nextSight_18 : decode cX1_nextSight 18 = .ok (.iconst 0, 1) := by decide +kernel
theorem dX1_nextSight_19 : decode cX1_nextSight 19 = .ok (.istore 5, 2) := by decide +kernel
theorem dX1_nextSight_21 : decode cX1_nextSight 21 = .ok (.iload 5, 2) := by decide +kernel
theorem dX1_nextSight_23 : decode cX1_nextSight 23 = .ok (.bipush 9, 2) := by decide +kernel
theorem dX1_nextSight_25 : decode cX1_nextSight 25 = .ok (.if_icmp .gt 61, 3) := by decide +kernel
theorem dX1_nextSight_28 : decode cX1_nextSight 28 = .ok (.iconst 0, 1) := by decide +kernel
theorem dX1_nextSight_29 : decode cX1_nextSight 29 = .ok (.istore 6, 2) := by decide +kernel
theorem dX1_nextSight_31 : decode cX1_nextSight 31 = .ok (.iload 6, 2) := by decide +kernel
theorem dX1_nextSight_33 : decode cX1_nextSight 33 = .ok (.bipush 20, 2) := by decide +kernel
theorem dX1_nextSight_35 : decode cX1_nextSight 35 = .ok (.if_icmp .gt 45, 3) := by decide +kernel
theorem dX1_nextSight_38 : decode cX1_nextSight 38 = .ok (.aload_n 0, 1) := by decide +kernel
theorem dX1_nextSight_39 : decode cX1_nextSight 39 = .ok (.getfield 35, 3) := by decide +kernel
theorem dX1_nextSight_42 : decode cX1_nextSight 42 = .ok (.iload_n 1, 1) := by decide +kernel
theorem dX1_nextSight_43 : decode cX1_nextSight 43 = .ok (.iaload, 1) := by decide +kernel
theorem dX1_nextSight_44 : decode cX1_nextSight 44 = .ok (.iload_n 2, 1) := by decide +kernel
theorem dX1_nextSight_45 : decode cX1_nextSight 45 = .ok (.iload 5, 2) := by decide +kernel
theorem dX1_nextSight_47 : decode cX1_nextSight 47 = .ok (.iload 6, 2) := by decide +kernel
theorem dX1_nextSight_49 : decode cX1_nextSight 49 = .ok (.invokestatic 48, 3) := by decide +kernel
theorem dX1_nextSight_52 : decode cX1_nextSight 52 = .ok (.istore 7, 2) := by decide +kernel
theorem dX1_nextSight_54 : decode cX1_nextSight 54 = .ok (.iload 7, 2) := by decide +kernel
theorem dX1_nextSight_56 : decode cX1_nextSight 56 = .ok (.iload 4, 2) := by decide +kernel
theorem dX1_nextSight_58 : decode cX1_nextSight 58 = .ok (.if_icmp .ge 16, 3) := by decide +kernel
theorem dX1_nextSight_61 : decode cX1_nextSight 61 = .ok (.iload 7, 2) := by decide +kernel
theorem dX1_nextSight_63 : decode cX1_nextSight 63 = .ok (.istore 4, 2) := by decide +kernel
theorem dX1_nextSight_65 : decode cX1_nextSight 65 = .ok (.bipush 100, 2) := by decide +kernel
theorem dX1_nextSight_67 : decode cX1_nextSight 67 = .ok (.iload 5, 2) := by decide +kernel
theorem dX1_nextSight_69 : decode cX1_nextSight 69 = .ok (.imul, 1) := by decide +kernel
theorem dX1_nextSight_70 : decode cX1_nextSight 70 = .ok (.iload 6, 2) := by decide +kernel
theorem dX1_nextSight_72 : decode cX1_nextSight 72 = .ok (.iadd, 1) := by decide +kernel
theorem dX1_nextSight_73 : decode cX1_nextSight 73 = .ok (.istore_n 3, 1) := by decide +kernel
theorem dX1_nextSight_74 : decode cX1_nextSight 74 = .ok (.iinc 6 1, 3) := by decide +kernel
theorem dX1_nextSight_77 : decode cX1_nextSight 77 = .ok (.goto (-46), 3) := by decide +kernel
theorem dX1_nextSight_80 : decode cX1_nextSight 80 = .ok (.iinc 5 1, 3) := by decide +kernel
theorem dX1_nextSight_83 : decode cX1_nextSight 83 = .ok (.goto (-62), 3) := by decide +kernel
theorem dX1_nextSight_86 : decode cX1_nextSight 86 = .ok (.iload_n 3, 1) := by decide +kernel
theorem dX1_nextSight_87 : decode cX1_nextSight 87 = .ok (.ireturn, 1) := by decide +kernel
set_option maxRecDepth 20000 in
theorem ggX1_greaterPart_X11_holds : GoodIn wsX1_greaterPart wsX11_holds := goodIn_r _ [7] (by decide +kernel) (by decide +kernel)
set_option maxRecDepth 20000 in
theorem gX1_greaterPart_X11_holds_n52 : GoodIn wsX1_greaterPart (wsX11_holds) := ggX1_greaterPart_X11_holds
set_option maxRecDepth 20000 in
theorem ggX1_greaterPart_X2_weight : GoodIn wsX1_greaterPart wsX2_weight := goodIn_r _ [11, 12, 2, 3, 4, 13, 14, 15] (by decide +kernel) (by decide +kernel)
set_option maxRecDepth 20000 in
theorem gX1_greaterPart_X2_weight : GoodIn wsX1_greaterPart (va_wsS RX1 38 yX2_weight wsX2_weight) := goodIn_app (goodIn_of _ (by decide +kernel)) ggX1_greaterPart_X2_weight
theorem dX1_greaterPart_0 : decode cX1_greaterPart 0 = .ok (.iconst 0, 1) := by decide +kernel
theorem dX1_greaterPart_1 : decode cX1_greaterPart 1 = .ok (.istore 4, 2) := by decide +kernel
theorem dX1_greaterPart_3 : decode cX1_greaterPart 3 = .ok (.iconst 0, 1) := by decide +kernel
theorem dX1_greaterPart_4 : decode cX1_greaterPart 4 = .ok (.istore 5, 2) := by decide +kernel
theorem dX1_greaterPart_6 : decode cX1_greaterPart 6 = .ok (.iconst 1, 1) := by decide +kernel
theorem dX1_greaterPart_7 : decode cX1_greaterPart 7 = .ok (.istore 6, 2) := by decide +kernel
theorem dX1_greaterPart_9 : decode cX1_greaterPart 9 = .ok (.iload 6, 2) := by decide +kernel
theorem dX1_greaterPart_11 : decode cX1_greaterPart 11 = .ok (.bipush 9, 2) := by decide +kernel
theorem dX1_greaterPart_13 : decode cX1_greaterPart 13 = .ok (.if_icmp .gt 38, 3) := by decide +kernel
theorem dX1_greaterPart_16 : decode cX1_greaterPart 16 = .ok (.iload_n 1, 1) := by decide +kernel
theorem dX1_greaterPart_17 : decode cX1_greaterPart 17 = .ok (.iload 6, 2) := by decide +kernel
theorem dX1_greaterPart_19 : decode cX1_greaterPart 19 = .ok (.invokestatic 52, 3) := by decide +kernel
theorem dX1_greaterPart_22 : decode cX1_greaterPart 22 = .ok (.ifCond .eq 23, 3) := by decide +kernel
theorem dX1_greaterPart_25 : decode cX1_greaterPart 25 = .ok (.iload_n 0, 1) := by decide +kernel
theorem dX1_greaterPart_26 : decode cX1_greaterPart 26 = .ok (.iload 6, 2) := by decide +kernel
theorem dX1_greaterPart_28 : decode cX1_greaterPart 28 = .ok (.iload_n 2, 1) := by decide +kernel
theorem dX1_greaterPart_29 : decode cX1_greaterPart 29 = .ok (.invokestatic 38, 3) := by decide +kernel
theorem dX1_greaterPart_32 : decode cX1_greaterPart 32 = .ok (.iload_n 3, 1) := by decide +kernel
theorem dX1_greaterPart_33 : decode cX1_greaterPart 33 = .ok (.if_icmp .gt 9, 3) := by decide +kernel
theorem dX1_greaterPart_36 : decode cX1_greaterPart 36 = .ok (.iinc 4 1, 3) := by decide +kernel
theorem dX1_greaterPart_39 : decode cX1_greaterPart 39 = .ok (.goto 6, 3) := by decide +kernel
theorem dX1_greaterPart_42 : decode cX1_greaterPart 42 = .ok (.iinc 5 1, 3) := by decide +kernel
theorem dX1_greaterPart_45 : decode cX1_greaterPart 45 = .ok (.iinc 6 1, 3) := by decide +kernel
theorem dX1_greaterPart_48 : decode cX1_greaterPart 48 = .ok (.goto (-39), 3) := by decide +kernel
theorem dX1_greaterPart_51 : decode cX1_greaterPart 51 = .ok (.iload 4, 2) := by decide +kernel
theorem dX1_greaterPart_53 : decode cX1_greaterPart 53 = .ok (.iload 5, 2) := by decide +kernel
theorem dX1_greaterPart_55 : decode cX1_greaterPart 55 = .ok (.invokestatic 56, 3) := by decide +kernel
theorem dX1_greaterPart_58 : decode cX1_greaterPart 58 = .ok (.ireturn, 1) := by decide +kernel
set_option maxRecDepth 20000 in
theorem ggX1_wrongKinds_X7_cell : GoodIn wsX1_wrongKinds wsX7_cell := goodIn_r _ [7, 8, 35, 36, 37] (by decide +kernel) (by decide +kernel)
set_option maxRecDepth 20000 in
theorem gX1_wrongKinds_X7_cell : GoodIn wsX1_wrongKinds (wsV RX1 31 RX7 yX7_cell wsX7_cell) := goodIn_app (goodIn_of _ (by decide +kernel)) ggX1_wrongKinds_X7_cell
set_option maxRecDepth 20000 in
theorem ggX1_wrongKinds_X2_weight : GoodIn wsX1_wrongKinds wsX2_weight := goodIn_r _ [12, 13, 14, 15, 16, 17, 18, 19] (by decide +kernel) (by decide +kernel)
set_option maxRecDepth 20000 in
theorem gX1_wrongKinds_X2_weight : GoodIn wsX1_wrongKinds (va_wsS RX1 38 yX2_weight wsX2_weight) := goodIn_app (goodIn_of _ (by decide +kernel)) ggX1_wrongKinds_X2_weight
theorem dX1_wrongKinds_0 : decode cX1_wrongKinds 0 = .ok (.bipush 63, 2) := by decide +kernel
theorem dX1_wrongKinds_2 : decode cX1_wrongKinds 2 = .ok (.istore_n 2, 1) := by decide +kernel
theorem dX1_wrongKinds_3 : decode cX1_wrongKinds 3 = .ok (.iconst 0, 1) := by decide +kernel
theorem dX1_wrongKinds_4 : decode cX1_wrongKinds 4 = .ok (.istore_n 3, 1) := by decide +kernel
theorem dX1_wrongKinds_5 : decode cX1_wrongKinds 5 = .ok (.iload_n 3, 1) := by decide +kernel
theorem dX1_wrongKinds_6 : decode cX1_wrongKinds 6 = .ok (.aload_n 0, 1) := by decide +kernel
theorem dX1_wrongKinds_7 : decode cX1_wrongKinds 7 = .ok (.getfield 61, 3) := by decide +kernel
theorem dX1_wrongKinds_10 : decode cX1_wrongKinds 10 = .ok (.getfield 25, 3) := by decide +kernel
theorem dX1_wrongKinds_13 : decode cX1_wrongKinds 13 = .ok (.if_icmp .ge 82, 3) := by decide +kernel
theorem dX1_wrongKinds_16 : decode cX1_wrongKinds 16 = .ok (.iconst 0, 1) := by decide +kernel
theorem dX1_wrongKinds_17 : decode cX1_wrongKinds 17 = .ok (.istore 4, 2) := by decide +kernel
theorem dX1_wrongKinds_19 : decode cX1_wrongKinds 19 = .ok (.iload 4, 2) := by decide +kernel
theorem dX1_wrongKinds_21 : decode cX1_wrongKinds 21 = .ok (.bipush 6, 2) := by decide +kernel
theorem dX1_wrongKinds_23 : decode cX1_wrongKinds 23 = .ok (.if_icmp .ge 66, 3) := by decide +kernel
theorem dX1_wrongKinds_26 : decode cX1_wrongKinds 26 = .ok (.aload_n 0, 1) := by decide +kernel
theorem dX1_wrongKinds_27 : decode cX1_wrongKinds 27 = .ok (.getfield 61, 3) := by decide +kernel
theorem dX1_wrongKinds_30 : decode cX1_wrongKinds 30 = .ok (.iload_n 3, 1) := by decide +kernel
theorem dX1_wrongKinds_31 : decode cX1_wrongKinds 31 = .ok (.iconst 0, 1) := by decide +kernel
theorem dX1_wrongKinds_32 : decode cX1_wrongKinds 32 = .ok (.invokevirtual 31, 3) := by decide +kernel
theorem dX1_wrongKinds_35 : decode cX1_wrongKinds 35 = .ok (.iload_n 1, 1) := by decide +kernel
theorem dX1_wrongKinds_36 : decode cX1_wrongKinds 36 = .ok (.if_icmp .ne 47, 3) := by decide +kernel
theorem dX1_wrongKinds_39 : decode cX1_wrongKinds 39 = .ok (.aload_n 0, 1) := by decide +kernel
theorem dX1_wrongKinds_40 : decode cX1_wrongKinds 40 = .ok (.getfield 61, 3) := by decide +kernel
theorem dX1_wrongKinds_43 : decode cX1_wrongKinds 43 = .ok (.iload_n 3, 1) := by decide +kernel
theorem dX1_wrongKinds_44 : decode cX1_wrongKinds 44 = .ok (.iconst 3, 1) := by decide +kernel
theorem dX1_wrongKinds_45 : decode cX1_wrongKinds 45 = .ok (.invokevirtual 31, 3) := by decide +kernel
theorem dX1_wrongKinds_48 : decode cX1_wrongKinds 48 = .ok (.iload 4, 2) := by decide +kernel
theorem dX1_wrongKinds_50 : decode cX1_wrongKinds 50 = .ok (.aload_n 0, 1) := by decide +kernel
theorem dX1_wrongKinds_51 : decode cX1_wrongKinds 51 = .ok (.getfield 61, 3) := by decide +kernel
theorem dX1_wrongKinds_54 : decode cX1_wrongKinds 54 = .ok (.iload_n 3, 1) := by decide +kernel
theorem dX1_wrongKinds_55 : decode cX1_wrongKinds 55 = .ok (.iconst 1, 1) := by decide +kernel
theorem dX1_wrongKinds_56 : decode cX1_wrongKinds 56 = .ok (.invokevirtual 31, 3) := by decide +kernel
theorem dX1_wrongKinds_59 : decode cX1_wrongKinds 59 = .ok (.aload_n 0, 1) := by decide +kernel
theorem dX1_wrongKinds_60 : decode cX1_wrongKinds 60 = .ok (.getfield 61, 3) := by decide +kernel
theorem dX1_wrongKinds_63 : decode cX1_wrongKinds 63 = .ok (.iload_n 3, 1) := by decide +kernel
theorem dX1_wrongKinds_64 : decode cX1_wrongKinds 64 = .ok (.iconst 2, 1) := by decide +kernel
theorem dX1_wrongKinds_65 : decode cX1_wrongKinds 65 = .ok (.invokevirtual 31, 3) := by decide +kernel
theorem dX1_wrongKinds_68 : decode cX1_wrongKinds 68 = .ok (.invokestatic 38, 3) := by decide +kernel
theorem dX1_wrongKinds_71 : decode cX1_wrongKinds 71 = .ok (.if_icmp .eq 12, 3) := by decide +kernel
theorem dX1_wrongKinds_74 : decode cX1_wrongKinds 74 = .ok (.iload_n 2, 1) := by decide +kernel
theorem dX1_wrongKinds_75 : decode cX1_wrongKinds 75 = .ok (.iconst 1, 1) := by decide +kernel
theorem dX1_wrongKinds_76 : decode cX1_wrongKinds 76 = .ok (.iload 4, 2) := by decide +kernel
theorem dX1_wrongKinds_78 : decode cX1_wrongKinds 78 = .ok (.ishl, 1) := by decide +kernel
theorem dX1_wrongKinds_79 : decode cX1_wrongKinds 79 = .ok (.iconst (-1), 1) := by decide +kernel
theorem dX1_wrongKinds_80 : decode cX1_wrongKinds 80 = .ok (.ixor, 1) := by decide +kernel
theorem dX1_wrongKinds_81 : decode cX1_wrongKinds 81 = .ok (.iand, 1) := by decide +kernel
theorem dX1_wrongKinds_82 : decode cX1_wrongKinds 82 = .ok (.istore_n 2, 1) := by decide +kernel
theorem dX1_wrongKinds_83 : decode cX1_wrongKinds 83 = .ok (.iinc 4 1, 3) := by decide +kernel
theorem dX1_wrongKinds_86 : decode cX1_wrongKinds 86 = .ok (.goto (-67), 3) := by decide +kernel
theorem dX1_wrongKinds_89 : decode cX1_wrongKinds 89 = .ok (.iinc 3 1, 3) := by decide +kernel
theorem dX1_wrongKinds_92 : decode cX1_wrongKinds 92 = .ok (.goto (-87), 3) := by decide +kernel
theorem dX1_wrongKinds_95 : decode cX1_wrongKinds 95 = .ok (.iload_n 2, 1) := by decide +kernel
theorem dX1_wrongKinds_96 : decode cX1_wrongKinds 96 = .ok (.ireturn, 1) := by decide +kernel
set_option maxRecDepth 20000 in
theorem ggX1_peopleKinds_X7_cell : GoodIn wsX1_peopleKinds wsX7_cell := goodIn_r _ [7, 8, 32, 33, 34] (by decide +kernel) (by decide +kernel)
set_option maxRecDepth 20000 in
theorem gX1_peopleKinds_X7_cell : GoodIn wsX1_peopleKinds (wsV RX1 31 RX7 yX7_cell wsX7_cell) := goodIn_app (goodIn_of _ (by decide +kernel)) ggX1_peopleKinds_X7_cell
set_option maxRecDepth 20000 in
theorem ggX1_peopleKinds_X2_mercy : GoodIn wsX1_peopleKinds wsX2_mercy := goodIn_r _ [12, 13, 14, 15, 16] (by decide +kernel) (by decide +kernel)
set_option maxRecDepth 20000 in
theorem gX1_peopleKinds_X2_mercy : GoodIn wsX1_peopleKinds (va_wsS RX1 67 yX2_mercy wsX2_mercy) := goodIn_app (goodIn_of _ (by decide +kernel)) ggX1_peopleKinds_X2_mercy
theorem dX1_peopleKinds_0 : decode cX1_peopleKinds 0 = .ok (.bipush 63, 2) := by decide +kernel
theorem dX1_peopleKinds_2 : decode cX1_peopleKinds 2 = .ok (.istore_n 2, 1) := by decide +kernel
theorem dX1_peopleKinds_3 : decode cX1_peopleKinds 3 = .ok (.iconst 0, 1) := by decide +kernel
theorem dX1_peopleKinds_4 : decode cX1_peopleKinds 4 = .ok (.istore_n 3, 1) := by decide +kernel
theorem dX1_peopleKinds_5 : decode cX1_peopleKinds 5 = .ok (.iload_n 3, 1) := by decide +kernel
theorem dX1_peopleKinds_6 : decode cX1_peopleKinds 6 = .ok (.aload_n 0, 1) := by decide +kernel
theorem dX1_peopleKinds_7 : decode cX1_peopleKinds 7 = .ok (.getfield 64, 3) := by decide +kernel
theorem dX1_peopleKinds_10 : decode cX1_peopleKinds 10 = .ok (.getfield 25, 3) := by decide +kernel
theorem dX1_peopleKinds_13 : decode cX1_peopleKinds 13 = .ok (.if_icmp .ge 82, 3) := by decide +kernel
theorem dX1_peopleKinds_16 : decode cX1_peopleKinds 16 = .ok (.iconst 0, 1) := by decide +kernel
theorem dX1_peopleKinds_17 : decode cX1_peopleKinds 17 = .ok (.istore 4, 2) := by decide +kernel
theorem dX1_peopleKinds_19 : decode cX1_peopleKinds 19 = .ok (.iload 4, 2) := by decide +kernel
theorem dX1_peopleKinds_21 : decode cX1_peopleKinds 21 = .ok (.bipush 6, 2) := by decide +kernel
theorem dX1_peopleKinds_23 : decode cX1_peopleKinds 23 = .ok (.if_icmp .ge 66, 3) := by decide +kernel
theorem dX1_peopleKinds_26 : decode cX1_peopleKinds 26 = .ok (.aload_n 0, 1) := by decide +kernel
theorem dX1_peopleKinds_27 : decode cX1_peopleKinds 27 = .ok (.getfield 64, 3) := by decide +kernel
theorem dX1_peopleKinds_30 : decode cX1_peopleKinds 30 = .ok (.iload_n 3, 1) := by decide +kernel
theorem dX1_peopleKinds_31 : decode cX1_peopleKinds 31 = .ok (.iconst 0, 1) := by decide +kernel
theorem dX1_peopleKinds_32 : decode cX1_peopleKinds 32 = .ok (.invokevirtual 31, 3) := by decide +kernel
theorem dX1_peopleKinds_35 : decode cX1_peopleKinds 35 = .ok (.iload_n 1, 1) := by decide +kernel
theorem dX1_peopleKinds_36 : decode cX1_peopleKinds 36 = .ok (.if_icmp .ne 47, 3) := by decide +kernel
theorem dX1_peopleKinds_39 : decode cX1_peopleKinds 39 = .ok (.aload_n 0, 1) := by decide +kernel
theorem dX1_peopleKinds_40 : decode cX1_peopleKinds 40 = .ok (.getfield 64, 3) := by decide +kernel
theorem dX1_peopleKinds_43 : decode cX1_peopleKinds 43 = .ok (.iload_n 3, 1) := by decide +kernel
theorem dX1_peopleKinds_44 : decode cX1_peopleKinds 44 = .ok (.iconst 3, 1) := by decide +kernel
theorem dX1_peopleKinds_45 : decode cX1_peopleKinds 45 = .ok (.invokevirtual 31, 3) := by decide +kernel
theorem dX1_peopleKinds_48 : decode cX1_peopleKinds 48 = .ok (.iload 4, 2) := by decide +kernel
theorem dX1_peopleKinds_50 : decode cX1_peopleKinds 50 = .ok (.aload_n 0, 1) := by decide +kernel
theorem dX1_peopleKinds_51 : decode cX1_peopleKinds 51 = .ok (.getfield 64, 3) := by decide +kernel
theorem dX1_peopleKinds_54 : decode cX1_peopleKinds 54 = .ok (.iload_n 3, 1) := by decide +kernel
theorem dX1_peopleKinds_55 : decode cX1_peopleKinds 55 = .ok (.iconst 1, 1) := by decide +kernel
theorem dX1_peopleKinds_56 : decode cX1_peopleKinds 56 = .ok (.invokevirtual 31, 3) := by decide +kernel
theorem dX1_peopleKinds_59 : decode cX1_peopleKinds 59 = .ok (.aload_n 0, 1) := by decide +kernel
theorem dX1_peopleKinds_60 : decode cX1_peopleKinds 60 = .ok (.getfield 64, 3) := by decide +kernel
theorem dX1_peopleKinds_63 : decode cX1_peopleKinds 63 = .ok (.iload_n 3, 1) := by decide +kernel
theorem dX1_peopleKinds_64 : decode cX1_peopleKinds 64 = .ok (.iconst 2, 1) := by decide +kernel
theorem dX1_peopleKinds_65 : decode cX1_peopleKinds 65 = .ok (.invokevirtual 31, 3) := by decide +kernel
theorem dX1_peopleKinds_68 : decode cX1_peopleKinds 68 = .ok (.invokestatic 67, 3) := by decide +kernel
theorem dX1_peopleKinds_71 : decode cX1_peopleKinds 71 = .ok (.if_icmp .eq 12, 3) := by decide +kernel
theorem dX1_peopleKinds_74 : decode cX1_peopleKinds 74 = .ok (.iload_n 2, 1) := by decide +kernel
theorem dX1_peopleKinds_75 : decode cX1_peopleKinds 75 = .ok (.iconst 1, 1) := by decide +kernel
theorem dX1_peopleKinds_76 : decode cX1_peopleKinds 76 = .ok (.iload 4, 2) := by decide +kernel
theorem dX1_peopleKinds_78 : decode cX1_peopleKinds 78 = .ok (.ishl, 1) := by decide +kernel
theorem dX1_peopleKinds_79 : decode cX1_peopleKinds 79 = .ok (.iconst (-1), 1) := by decide +kernel
theorem dX1_peopleKinds_80 : decode cX1_peopleKinds 80 = .ok (.ixor, 1) := by decide +kernel
theorem dX1_peopleKinds_81 : decode cX1_peopleKinds 81 = .ok (.iand, 1) := by decide +kernel
theorem dX1_peopleKinds_82 : decode cX1_peopleKinds 82 = .ok (.istore_n 2, 1) := by decide +kernel
theorem dX1_peopleKinds_83 : decode cX1_peopleKinds 83 = .ok (.iinc 4 1, 3) := by decide +kernel
theorem dX1_peopleKinds_86 : decode cX1_peopleKinds 86 = .ok (.goto (-67), 3) := by decide +kernel
theorem dX1_peopleKinds_89 : decode cX1_peopleKinds 89 = .ok (.iinc 3 1, 3) := by decide +kernel
theorem dX1_peopleKinds_92 : decode cX1_peopleKinds 92 = .ok (.goto (-87), 3) := by decide +kernel
theorem dX1_peopleKinds_95 : decode cX1_peopleKinds 95 = .ok (.iload_n 2, 1) := by decide +kernel
theorem dX1_peopleKinds_96 : decode cX1_peopleKinds 96 = .ok (.ireturn, 1) := by decide +kernel
set_option maxRecDepth 20000 in
theorem ggX1_nextLook_X1_wrongKinds : GoodIn wsX1_nextLook wsX1_wrongKinds := goodIn_r _ [6, 7, 8, 9, 10, 11, 12, 13, 14, 15, 16, 17, 18, 19, 20, 21, 22, 23, 24, 25, 35, 36, 37, 38, 39, 40, 41, 42, 43, 44, 45, 46, 47, 48, 49, 50, 51, 52] (by decide +kernel) (by decide +kernel)
set_option maxRecDepth 20000 in
theorem gX1_nextLook_X1_wrongKinds : GoodIn wsX1_nextLook (va_wsS RX1 70 yX1_wrongKinds wsX1_wrongKinds) := goodIn_app (goodIn_of _ (by decide +kernel)) ggX1_nextLook_X1_wrongKinds
set_option maxRecDepth 20000 in
theorem ggX1_nextLook_X2_weight : GoodIn wsX1_nextLook wsX2_weight := goodIn_r _ [18, 19, 20, 21, 22, 23, 24, 25] (by decide +kernel) (by decide +kernel)
set_option maxRecDepth 20000 in
theorem gX1_nextLook_X2_weight : GoodIn wsX1_nextLook (va_wsS RX1 38 yX2_weight wsX2_weight) := goodIn_app (goodIn_of _ (by decide +kernel)) ggX1_nextLook_X2_weight
set_option maxRecDepth 20000 in
theorem ggX1_nextLook_X1_mostAlike : GoodIn wsX1_nextLook wsX1_mostAlike := goodIn_r _ [29, 1, 30, 20, 21, 22, 31, 32, 33, 34] (by decide +kernel) (by decide +kernel)
set_option maxRecDepth 20000 in
theorem gX1_nextLook_X1_mostAlike : GoodIn wsX1_nextLook (wsV RX1 76 RX1 yX1_mostAlike wsX1_mostAlike) := goodIn_app (goodIn_of _ (by decide +kernel)) ggX1_nextLook_X1_mostAlike
theorem dX1_nextLook_0 : decode cX1_nextLook 0 = .ok (.aload_n 1, 1) := by decide +kernel
theorem dX1_nextLook_1 : decode cX1_nextLook 1 = .ok (.iload_n 2, 1) := by decide +kernel
theorem dX1_nextLook_2 : decode cX1_nextLook 2 = .ok (.invokestatic 70, 3) := by decide +kernel
theorem dX1_nextLook_5 : decode cX1_nextLook 5 = .ok (.istore_n 3, 1) := by decide +kernel
theorem dX1_nextLook_6 : decode cX1_nextLook 6 = .ok (.iload_n 3, 1) := by decide +kernel
theorem dX1_nextLook_7 : decode cX1_nextLook 7 = .ok (.ifCond .ne 5, 3) := by decide +kernel
theorem dX1_nextLook_10 : decode cX1_nextLook 10 = .ok (.iconst (-1), 1) := by decide +kernel
theorem dX1_nextLook_11 : decode cX1_nextLook 11 = .ok (.ireturn, 1) := by decide +kernel
theorem dX1_nextLook_12 : decode cX1_nextLook 12 = .ok (.iconst (-1), 1) := by decide +kernel
theorem dX1_nextLook_13 : decode cX1_nextLook 13 = .ok (.istore 4, 2) := by decide +kernel
theorem dX1_nextLook_15 : decode cX1_nextLook 15 = .ok (.bipush 100, 2) := by decide +kernel
theorem dX1_nextLook_17 : decode cX1_nextLook 17 = .ok (.istore 5, 2) := by decide +kernel
theorem dX1_nextLook_19 : decode cX1_nextLook 19 = .ok (.iconst 0, 1) := by decide +kernel
theorem dX1_nextLook_20 : decode cX1_nextLook 20 = .ok (.istore 6, 2) := by decide +kernel
theorem dX1_nextLook_22 : decode cX1_nextLook 22 = .ok (.iload 6, 2) := by decide +kernel
theorem dX1_nextLook_24 : decode cX1_nextLook 24 = .ok (.bipush 30, 2) := by decide +kernel
theorem dX1_nextLook_26 : decode cX1_nextLook 26 = .ok (.if_icmp .gt 67, 3) := by decide +kernel
theorem dX1_nextLook_29 : decode cX1_nextLook 29 = .ok (.iconst 0, 1) := by decide +kernel
theorem dX1_nextLook_30 : decode cX1_nextLook 30 = .ok (.istore 7, 2) := by decide +kernel
theorem dX1_nextLook_32 : decode cX1_nextLook 32 = .ok (.iload 7, 2) := by decide +kernel
theorem dX1_nextLook_34 : decode cX1_nextLook 34 = .ok (.bipush 6, 2) := by decide +kernel
theorem dX1_nextLook_36 : decode cX1_nextLook 36 = .ok (.if_icmp .ge 29, 3) := by decide +kernel
theorem dX1_nextLook_39 : decode cX1_nextLook 39 = .ok (.aload_n 0, 1) := by decide +kernel
theorem dX1_nextLook_40 : decode cX1_nextLook 40 = .ok (.getfield 9, 3) := by decide +kernel
theorem dX1_nextLook_43 : decode cX1_nextLook 43 = .ok (.iload 7, 2) := by decide +kernel
theorem dX1_nextLook_45 : decode cX1_nextLook 45 = .ok (.iload 7, 2) := by decide +kernel
theorem dX1_nextLook_47 : decode cX1_nextLook 47 = .ok (.aload_n 1, 1) := by decide +kernel
theorem dX1_nextLook_48 : decode cX1_nextLook 48 = .ok (.getfield 73, 3) := by decide +kernel
theorem dX1_nextLook_51 : decode cX1_nextLook 51 = .ok (.iload_n 2, 1) := by decide +kernel
theorem dX1_nextLook_52 : decode cX1_nextLook 52 = .ok (.iaload, 1) := by decide +kernel
theorem dX1_nextLook_53 : decode cX1_nextLook 53 = .ok (.iload 6, 2) := by decide +kernel
theorem dX1_nextLook_55 : decode cX1_nextLook 55 = .ok (.invokestatic 38, 3) := by decide +kernel
theorem dX1_nextLook_58 : decode cX1_nextLook 58 = .ok (.iastore, 1) := by decide +kernel
theorem dX1_nextLook_59 : decode cX1_nextLook 59 = .ok (.iinc 7 1, 3) := by decide +kernel
theorem dX1_nextLook_62 : decode cX1_nextLook 62 = .ok (.goto (-30), 3) := by decide +kernel
theorem dX1_nextLook_65 : decode cX1_nextLook 65 = .ok (.aload_n 0, 1) := by decide +kernel
theorem dX1_nextLook_66 : decode cX1_nextLook 66 = .ok (.iload_n 3, 1) := by decide +kernel
theorem dX1_nextLook_67 : decode cX1_nextLook 67 = .ok (.invokevirtual 76, 3) := by decide +kernel
theorem dX1_nextLook_70 : decode cX1_nextLook 70 = .ok (.istore 7, 2) := by decide +kernel
theorem dX1_nextLook_72 : decode cX1_nextLook 72 = .ok (.iload 7, 2) := by decide +kernel
theorem dX1_nextLook_74 : decode cX1_nextLook 74 = .ok (.iload 5, 2) := by decide +kernel
theorem dX1_nextLook_76 : decode cX1_nextLook 76 = .ok (.if_icmp .ge 11, 3) := by decide +kernel
theorem dX1_nextLook_79 : decode cX1_nextLook 79 = .ok (.iload 7, 2) := by decide +kernel
theorem dX1_nextLook_81 : decode cX1_nextLook 81 = .ok (.istore 5, 2) := by decide +kernel
theorem dX1_nextLook_83 : decode cX1_nextLook 83 = .ok (.iload 6, 2) := by decide +kernel
theorem dX1_nextLook_85 : decode cX1_nextLook 85 = .ok (.istore 4, 2) := by decide +kernel
theorem dX1_nextLook_87 : decode cX1_nextLook 87 = .ok (.iinc 6 1, 3) := by decide +kernel
theorem dX1_nextLook_90 : decode cX1_nextLook 90 = .ok (.goto (-68), 3) := by decide +kernel
theorem dX1_nextLook_93 : decode cX1_nextLook 93 = .ok (.iload 4, 2) := by decide +kernel
theorem dX1_nextLook_95 : decode cX1_nextLook 95 = .ok (.ireturn, 1) := by decide +kernel
set_option maxRecDepth 20000 in
theorem ggX1_nextAsk_X1_peopleKinds : GoodIn wsX1_nextAsk wsX1_peopleKinds := goodIn_r _ [5, 6, 7, 8, 9, 10, 11, 12, 13, 14, 15, 16, 17, 18, 19, 20, 21, 33, 34, 35, 36, 37, 38, 39, 40, 41, 42, 43, 44, 45, 46, 47, 48, 49, 50] (by decide +kernel) (by decide +kernel)
set_option maxRecDepth 20000 in
theorem gX1_nextAsk_X1_peopleKinds : GoodIn wsX1_nextAsk (va_wsS RX1 80 yX1_peopleKinds wsX1_peopleKinds) := goodIn_app (goodIn_of _ (by decide +kernel)) ggX1_nextAsk_X1_peopleKinds
set_option maxRecDepth 20000 in
theorem ggX1_nextAsk_X2_mercy : GoodIn wsX1_nextAsk wsX2_mercy := goodIn_r _ [17, 18, 19, 20, 21] (by decide +kernel) (by decide +kernel)
set_option maxRecDepth 20000 in
theorem gX1_nextAsk_X2_mercy : GoodIn wsX1_nextAsk (va_wsS RX1 67 yX2_mercy wsX2_mercy) := goodIn_app (goodIn_of _ (by decide +kernel)) ggX1_nextAsk_X2_mercy
set_option maxRecDepth 20000 in
theorem ggX1_nextAsk_X1_mostAlike : GoodIn wsX1_nextAsk wsX1_mostAlike := goodIn_r _ [25, 1, 26, 27, 20, 28, 29, 30, 31, 32] (by decide +kernel) (by decide +kernel)
set_option maxRecDepth 20000 in
theorem gX1_nextAsk_X1_mostAlike : GoodIn wsX1_nextAsk (wsV RX1 76 RX1 yX1_mostAlike wsX1_mostAlike) := goodIn_app (goodIn_of _ (by decide +kernel)) ggX1_nextAsk_X1_mostAlike
theorem dX1_nextAsk_0 : decode cX1_nextAsk 0 = .ok (.aload_n 1, 1) := by decide +kernel
theorem dX1_nextAsk_1 : decode cX1_nextAsk 1 = .ok (.iload_n 2, 1) := by decide +kernel
theorem dX1_nextAsk_2 : decode cX1_nextAsk 2 = .ok (.invokestatic 80, 3) := by decide +kernel
theorem dX1_nextAsk_5 : decode cX1_nextAsk 5 = .ok (.istore_n 3, 1) := by decide +kernel
theorem dX1_nextAsk_6 : decode cX1_nextAsk 6 = .ok (.iload_n 3, 1) := by decide +kernel
theorem dX1_nextAsk_7 : decode cX1_nextAsk 7 = .ok (.ifCond .ne 5, 3) := by decide +kernel
theorem dX1_nextAsk_10 : decode cX1_nextAsk 10 = .ok (.iconst (-1), 1) := by decide +kernel
theorem dX1_nextAsk_11 : decode cX1_nextAsk 11 = .ok (.ireturn, 1) := by decide +kernel
theorem dX1_nextAsk_12 : decode cX1_nextAsk 12 = .ok (.iconst (-1), 1) := by decide +kernel
theorem dX1_nextAsk_13 : decode cX1_nextAsk 13 = .ok (.istore 4, 2) := by decide +kernel
theorem dX1_nextAsk_15 : decode cX1_nextAsk 15 = .ok (.bipush 100, 2) := by decide +kernel
theorem dX1_nextAsk_17 : decode cX1_nextAsk 17 = .ok (.istore 5, 2) := by decide +kernel
theorem dX1_nextAsk_19 : decode cX1_nextAsk 19 = .ok (.iconst 0, 1) := by decide +kernel
theorem dX1_nextAsk_20 : decode cX1_nextAsk 20 = .ok (.istore 6, 2) := by decide +kernel
theorem dX1_nextAsk_22 : decode cX1_nextAsk 22 = .ok (.iload 6, 2) := by decide +kernel
theorem dX1_nextAsk_24 : decode cX1_nextAsk 24 = .ok (.iconst 5, 1) := by decide +kernel
theorem dX1_nextAsk_25 : decode cX1_nextAsk 25 = .ok (.if_icmp .gt 85, 3) := by decide +kernel
theorem dX1_nextAsk_28 : decode cX1_nextAsk 28 = .ok (.iconst 0, 1) := by decide +kernel
theorem dX1_nextAsk_29 : decode cX1_nextAsk 29 = .ok (.istore 7, 2) := by decide +kernel
theorem dX1_nextAsk_31 : decode cX1_nextAsk 31 = .ok (.iload 7, 2) := by decide +kernel
theorem dX1_nextAsk_33 : decode cX1_nextAsk 33 = .ok (.bipush 30, 2) := by decide +kernel
theorem dX1_nextAsk_35 : decode cX1_nextAsk 35 = .ok (.if_icmp .gt 69, 3) := by decide +kernel
theorem dX1_nextAsk_38 : decode cX1_nextAsk 38 = .ok (.iconst 0, 1) := by decide +kernel
theorem dX1_nextAsk_39 : decode cX1_nextAsk 39 = .ok (.istore 8, 2) := by decide +kernel
theorem dX1_nextAsk_41 : decode cX1_nextAsk 41 = .ok (.iload 8, 2) := by decide +kernel
theorem dX1_nextAsk_43 : decode cX1_nextAsk 43 = .ok (.bipush 6, 2) := by decide +kernel
theorem dX1_nextAsk_45 : decode cX1_nextAsk 45 = .ok (.if_icmp .ge 25, 3) := by decide +kernel
theorem dX1_nextAsk_48 : decode cX1_nextAsk 48 = .ok (.aload_n 0, 1) := by decide +kernel
theorem dX1_nextAsk_49 : decode cX1_nextAsk 49 = .ok (.getfield 9, 3) := by decide +kernel
theorem dX1_nextAsk_52 : decode cX1_nextAsk 52 = .ok (.iload 8, 2) := by decide +kernel
theorem dX1_nextAsk_54 : decode cX1_nextAsk 54 = .ok (.iload 8, 2) := by decide +kernel
theorem dX1_nextAsk_56 : decode cX1_nextAsk 56 = .ok (.iload 6, 2) := by decide +kernel
theorem dX1_nextAsk_58 : decode cX1_nextAsk 58 = .ok (.iload 7, 2) := by decide +kernel
theorem dX1_nextAsk_60 : decode cX1_nextAsk 60 = .ok (.invokestatic 67, 3) := by decide +kernel
theorem dX1_nextAsk_63 : decode cX1_nextAsk 63 = .ok (.iastore, 1) := by decide +kernel
theorem dX1_nextAsk_64 : decode cX1_nextAsk 64 = .ok (.iinc 8 1, 3) := by decide +kernel
theorem dX1_nextAsk_67 : decode cX1_nextAsk 67 = .ok (.goto (-26), 3) := by decide +kernel
theorem dX1_nextAsk_70 : decode cX1_nextAsk 70 = .ok (.aload_n 0, 1) := by decide +kernel
theorem dX1_nextAsk_71 : decode cX1_nextAsk 71 = .ok (.iload_n 3, 1) := by decide +kernel
theorem dX1_nextAsk_72 : decode cX1_nextAsk 72 = .ok (.invokevirtual 76, 3) := by decide +kernel
theorem dX1_nextAsk_75 : decode cX1_nextAsk 75 = .ok (.istore 8, 2) := by decide +kernel
theorem dX1_nextAsk_77 : decode cX1_nextAsk 77 = .ok (.iload 8, 2) := by decide +kernel
theorem dX1_nextAsk_79 : decode cX1_nextAsk 79 = .ok (.iload 5, 2) := by decide +kernel
theorem dX1_nextAsk_81 : decode cX1_nextAsk 81 = .ok (.if_icmp .ge 17, 3) := by decide +kernel
theorem dX1_nextAsk_84 : decode cX1_nextAsk 84 = .ok (.iload 8, 2) := by decide +kernel
theorem dX1_nextAsk_86 : decode cX1_nextAsk 86 = .ok (.istore 5, 2) := by decide +kernel
theorem dX1_nextAsk_88 : decode cX1_nextAsk 88 = .ok (.bipush 100, 2) := by decide +kernel
theorem dX1_nextAsk_90 : decode cX1_nextAsk 90 = .ok (.iload 6, 2) := by decide +kernel
theorem dX1_nextAsk_92 : decode cX1_nextAsk 92 = .ok (.imul, 1) := by decide +kernel
theorem dX1_nextAsk_93 : decode cX1_nextAsk 93 = .ok (.iload 7, 2) := by decide +kernel
theorem dX1_nextAsk_95 : decode cX1_nextAsk 95 = .ok (.iadd, 1) := by decide +kernel
theorem dX1_nextAsk_96 : decode cX1_nextAsk 96 = .ok (.istore 4, 2) := by decide +kernel
theorem dX1_nextAsk_98 : decode cX1_nextAsk 98 = .ok (.iinc 7 1, 3) := by decide +kernel
theorem dX1_nextAsk_101 : decode cX1_nextAsk 101 = .ok (.goto (-70), 3) := by decide +kernel
theorem dX1_nextAsk_104 : decode cX1_nextAsk 104 = .ok (.iinc 6 1, 3) := by decide +kernel
theorem dX1_nextAsk_107 : decode cX1_nextAsk 107 = .ok (.goto (-85), 3) := by decide +kernel
theorem dX1_nextAsk_110 : decode cX1_nextAsk 110 = .ok (.iload 4, 2) := by decide +kernel
theorem dX1_nextAsk_112 : decode cX1_nextAsk 112 = .ok (.ireturn, 1) := by decide +kernel
set_option maxRecDepth 20000 in
theorem ggX1_mostAlike_X11_holds : GoodIn wsX1_mostAlike wsX11_holds := goodIn_r _ [8] (by decide +kernel) (by decide +kernel)
set_option maxRecDepth 20000 in
theorem gX1_mostAlike_X11_holds_n52 : GoodIn wsX1_mostAlike (wsX11_holds) := ggX1_mostAlike_X11_holds
theorem dX1_mostAlike_0 : decode cX1_mostAlike 0 = .ok (.iconst 0, 1) := by decide +kernel
theorem dX1_mostAlike_1 : decode cX1_mostAlike 1 = .ok (.istore_n 2, 1) := by decide +kernel
theorem dX1_mostAlike_2 : decode cX1_mostAlike 2 = .ok (.iconst 0, 1) := by decide +kernel
theorem dX1_mostAlike_3 : decode cX1_mostAlike 3 = .ok (.istore_n 3, 1) := by decide +kernel
theorem dX1_mostAlike_4 : decode cX1_mostAlike 4 = .ok (.iload_n 3, 1) := by decide +kernel
theorem dX1_mostAlike_5 : decode cX1_mostAlike 5 = .ok (.bipush 6, 2) := by decide +kernel
theorem dX1_mostAlike_7 : decode cX1_mostAlike 7 = .ok (.if_icmp .ge 71, 3) := by decide +kernel
theorem dX1_mostAlike_10 : decode cX1_mostAlike 10 = .ok (.iconst 0, 1) := by decide +kernel
theorem dX1_mostAlike_11 : decode cX1_mostAlike 11 = .ok (.istore 4, 2) := by decide +kernel
theorem dX1_mostAlike_13 : decode cX1_mostAlike 13 = .ok (.iconst 0, 1) := by decide +kernel
theorem dX1_mostAlike_14 : decode cX1_mostAlike 14 = .ok (.istore 5, 2) := by decide +kernel
theorem dX1_mostAlike_16 : decode cX1_mostAlike 16 = .ok (.iload 5, 2) := by decide +kernel
theorem dX1_mostAlike_18 : decode cX1_mostAlike 18 = .ok (.bipush 6, 2) := by decide +kernel
theorem dX1_mostAlike_20 : decode cX1_mostAlike 20 = .ok (.if_icmp .ge 45, 3) := by decide +kernel
theorem dX1_mostAlike_23 : decode cX1_mostAlike 23 = .ok (.iload_n 1, 1) := by decide +kernel
theorem dX1_mostAlike_24 : decode cX1_mostAlike 24 = .ok (.iload_n 3, 1) := by decide +kernel
theorem dX1_mostAlike_25 : decode cX1_mostAlike 25 = .ok (.invokestatic 52, 3) := by decide +kernel
theorem dX1_mostAlike_28 : decode cX1_mostAlike 28 = .ok (.ifCond .eq 31, 3) := by decide +kernel
theorem dX1_mostAlike_31 : decode cX1_mostAlike 31 = .ok (.iload_n 1, 1) := by decide +kernel
theorem dX1_mostAlike_32 : decode cX1_mostAlike 32 = .ok (.iload 5, 2) := by decide +kernel
theorem dX1_mostAlike_34 : decode cX1_mostAlike 34 = .ok (.invokestatic 52, 3) := by decide +kernel
theorem dX1_mostAlike_37 : decode cX1_mostAlike 37 = .ok (.ifCond .eq 22, 3) := by decide +kernel
theorem dX1_mostAlike_40 : decode cX1_mostAlike 40 = .ok (.aload_n 0, 1) := by decide +kernel
theorem dX1_mostAlike_41 : decode cX1_mostAlike 41 = .ok (.getfield 9, 3) := by decide +kernel
theorem dX1_mostAlike_44 : decode cX1_mostAlike 44 = .ok (.iload_n 3, 1) := by decide +kernel
theorem dX1_mostAlike_45 : decode cX1_mostAlike 45 = .ok (.iaload, 1) := by decide +kernel
theorem dX1_mostAlike_46 : decode cX1_mostAlike 46 = .ok (.aload_n 0, 1) := by decide +kernel
theorem dX1_mostAlike_47 : decode cX1_mostAlike 47 = .ok (.getfield 9, 3) := by decide +kernel
theorem dX1_mostAlike_50 : decode cX1_mostAlike 50 = .ok (.iload 5, 2) := by decide +kernel
theorem dX1_mostAlike_52 : decode cX1_mostAlike 52 = .ok (.iaload, 1) := by decide +kernel
theorem dX1_mostAlike_53 : decode cX1_mostAlike 53 = .ok (.if_icmp .ne 6, 3) := by decide +kernel
theorem dX1_mostAlike_56 : decode cX1_mostAlike 56 = .ok (.iinc 4 1, 3) := by decide +kernel
theorem dX1_mostAlike_59 : decode cX1_mostAlike 59 = .ok (.iinc 5 1, 3) := by decide +kernel
theorem dX1_mostAlike_62 : decode cX1_mostAlike 62 = .ok (.goto (-46), 3) := by decide +kernel
theorem dX1_mostAlike_65 : decode cX1_mostAlike 65 = .ok (.iload_n 2, 1) := by decide +kernel
theorem dX1_mostAlike_66 : decode cX1_mostAlike 66 = .ok (.iload 4, 2) := by decide +kernel
theorem dX1_mostAlike_68 : decode cX1_mostAlike 68 = .ok (.invokestatic 56, 3) := by decide +kernel
theorem dX1_mostAlike_71 : decode cX1_mostAlike 71 = .ok (.istore_n 2, 1) := by decide +kernel
theorem dX1_mostAlike_72 : decode cX1_mostAlike 72 = .ok (.iinc 3 1, 3) := by decide +kernel
theorem dX1_mostAlike_75 : decode cX1_mostAlike 75 = .ok (.goto (-71), 3) := by decide +kernel
theorem dX1_mostAlike_78 : decode cX1_mostAlike 78 = .ok (.iload_n 2, 1) := by decide +kernel
theorem dX1_mostAlike_79 : decode cX1_mostAlike 79 = .ok (.ireturn, 1) := by decide +kernel
theorem dX2_weight_0 : decode cX2_weight 0 = .ok (.iconst 0, 1) := by decide +kernel
theorem dX2_weight_1 : decode cX2_weight 1 = .ok (.iload_n 1, 1) := by decide +kernel
theorem dX2_weight_2 : decode cX2_weight 2 = .ok (.iload_n 2, 1) := by decide +kernel
theorem dX2_weight_3 : decode cX2_weight 3 = .ok (.iconst 3, 1) := by decide +kernel
theorem dX2_weight_4 : decode cX2_weight 4 = .ok (.idiv, 1) := by decide +kernel
theorem dX2_weight_5 : decode cX2_weight 5 = .ok (.isub, 1) := by decide +kernel
theorem dX2_weight_6 : decode cX2_weight 6 = .ok (.invokestatic 7, 3) := by decide +kernel
theorem dX2_weight_9 : decode cX2_weight 9 = .ok (.istore_n 3, 1) := by decide +kernel
theorem dX2_weight_10 : decode cX2_weight 10 = .ok (.iload_n 1, 1) := by decide +kernel
theorem dX2_weight_11 : decode cX2_weight 11 = .ok (.iconst 5, 1) := by decide +kernel
theorem dX2_weight_12 : decode cX2_weight 12 = .ok (.iload_n 2, 1) := by decide +kernel
theorem dX2_weight_13 : decode cX2_weight 13 = .ok (.iconst 5, 1) := by decide +kernel
theorem dX2_weight_14 : decode cX2_weight 14 = .ok (.idiv, 1) := by decide +kernel
theorem dX2_weight_15 : decode cX2_weight 15 = .ok (.invokestatic 13, 3) := by decide +kernel
theorem dX2_weight_18 : decode cX2_weight 18 = .ok (.iadd, 1) := by decide +kernel
theorem dX2_weight_19 : decode cX2_weight 19 = .ok (.istore 4, 2) := by decide +kernel
theorem dX2_weight_21 : decode cX2_weight 21 = .ok (.iload_n 0, 1) := by decide +kernel
theorem dX2_weight_22 : decode cX2_weight 22 = .ok (.tableswitch 68 1 5 #[34, 36, 39, 45, 50], 34) := by decide +kernel
theorem dX2_weight_56 : decode cX2_weight 56 = .ok (.iload_n 3, 1) := by decide +kernel
theorem dX2_weight_57 : decode cX2_weight 57 = .ok (.ireturn, 1) := by decide +kernel
theorem dX2_weight_58 : decode cX2_weight 58 = .ok (.iload 4, 2) := by decide +kernel
theorem dX2_weight_60 : decode cX2_weight 60 = .ok (.ireturn, 1) := by decide +kernel
theorem dX2_weight_61 : decode cX2_weight 61 = .ok (.iconst 2, 1) := by decide +kernel
theorem dX2_weight_62 : decode cX2_weight 62 = .ok (.iload_n 3, 1) := by decide +kernel
theorem dX2_weight_63 : decode cX2_weight 63 = .ok (.invokestatic 7, 3) := by decide +kernel
theorem dX2_weight_66 : decode cX2_weight 66 = .ok (.ireturn, 1) := by decide +kernel
theorem dX2_weight_67 : decode cX2_weight 67 = .ok (.iconst 2, 1) := by decide +kernel
theorem dX2_weight_68 : decode cX2_weight 68 = .ok (.iload 4, 2) := by decide +kernel
theorem dX2_weight_70 : decode cX2_weight 70 = .ok (.imul, 1) := by decide +kernel
theorem dX2_weight_71 : decode cX2_weight 71 = .ok (.ireturn, 1) := by decide +kernel
theorem dX2_weight_72 : decode cX2_weight 72 = .ok (.iload_n 2, 1) := by decide +kernel
theorem dX2_weight_73 : decode cX2_weight 73 = .ok (.iconst 1, 1) := by decide +kernel
theorem dX2_weight_74 : decode cX2_weight 74 = .ok (.if_icmp .lt 14, 3) := by decide +kernel
theorem dX2_weight_77 : decode cX2_weight 77 = .ok (.iload_n 2, 1) := by decide +kernel
theorem dX2_weight_78 : decode cX2_weight 78 = .ok (.bipush 7, 2) := by decide +kernel
theorem dX2_weight_80 : decode cX2_weight 80 = .ok (.irem, 1) := by decide +kernel
theorem dX2_weight_81 : decode cX2_weight 81 = .ok (.ifCond .ne 7, 3) := by decide +kernel
theorem dX2_weight_84 : decode cX2_weight 84 = .ok (.iconst 0, 1) := by decide +kernel
theorem dX2_weight_85 : decode cX2_weight 85 = .ok (.goto 4, 3) := by decide +kernel
theorem dX2_weight_88 : decode cX2_weight 88 = .ok (.iload_n 3, 1) := by decide +kernel
theorem dX2_weight_89 : decode cX2_weight 89 = .ok (.ireturn, 1) := by decide +kernel
theorem dX2_weight_90 : decode cX2_weight 90 = .ok (.iload_n 1, 1) := by decide +kernel
theorem dX2_weight_91 : decode cX2_weight 91 = .ok (.ireturn, 1) := by decide +kernel
theorem dX2_mercy_0 : decode cX2_mercy 0 = .ok (.iconst 2, 1) := by decide +kernel
theorem dX2_mercy_1 : decode cX2_mercy 1 = .ok (.iload_n 1, 1) := by decide +kernel
theorem dX2_mercy_2 : decode cX2_mercy 2 = .ok (.iadd, 1) := by decide +kernel
theorem dX2_mercy_3 : decode cX2_mercy 3 = .ok (.istore_n 3, 1) := by decide +kernel
theorem dX2_mercy_4 : decode cX2_mercy 4 = .ok (.iload_n 3, 1) := by decide +kernel
theorem dX2_mercy_5 : decode cX2_mercy 5 = .ok (.iconst 3, 1) := by decide +kernel
theorem dX2_mercy_6 : decode cX2_mercy 6 = .ok (.iadd, 1) := by decide +kernel
theorem dX2_mercy_7 : decode cX2_mercy 7 = .ok (.istore 4, 2) := by decide +kernel
theorem dX2_mercy_9 : decode cX2_mercy 9 = .ok (.iload_n 3, 1) := by decide +kernel
theorem dX2_mercy_10 : decode cX2_mercy 10 = .ok (.iconst 2, 1) := by decide +kernel
theorem dX2_mercy_11 : decode cX2_mercy 11 = .ok (.idiv, 1) := by decide +kernel
theorem dX2_mercy_12 : decode cX2_mercy 12 = .ok (.istore 5, 2) := by decide +kernel
theorem dX2_mercy_14 : decode cX2_mercy 14 = .ok (.iload_n 0, 1) := by decide +kernel
theorem dX2_mercy_15 : decode cX2_mercy 15 = .ok (.tableswitch 82 1 5 #[33, 36, 39, 54, 69], 33) := by decide +kernel
theorem dX2_mercy_48 : decode cX2_mercy 48 = .ok (.iload 4, 2) := by decide +kernel
theorem dX2_mercy_50 : decode cX2_mercy 50 = .ok (.ireturn, 1) := by decide +kernel
theorem dX2_mercy_51 : decode cX2_mercy 51 = .ok (.iload 5, 2) := by decide +kernel
theorem dX2_mercy_53 : decode cX2_mercy 53 = .ok (.ireturn, 1) := by decide +kernel
theorem dX2_mercy_54 : decode cX2_mercy 54 = .ok (.iload_n 2, 1) := by decide +kernel
theorem dX2_mercy_55 : decode cX2_mercy 55 = .ok (.bipush 30, 2) := by decide +kernel
theorem dX2_mercy_57 : decode cX2_mercy 57 = .ok (.irem, 1) := by decide +kernel
theorem dX2_mercy_58 : decode cX2_mercy 58 = .ok (.ifCond .ne 8, 3) := by decide +kernel
theorem dX2_mercy_61 : decode cX2_mercy 61 = .ok (.bipush 30, 2) := by decide +kernel
theorem dX2_mercy_63 : decode cX2_mercy 63 = .ok (.goto 5, 3) := by decide +kernel
theorem dX2_mercy_66 : decode cX2_mercy 66 = .ok (.iload 5, 2) := by decide +kernel
theorem dX2_mercy_68 : decode cX2_mercy 68 = .ok (.ireturn, 1) := by decide +kernel
theorem dX2_mercy_69 : decode cX2_mercy 69 = .ok (.iload_n 1, 1) := by decide +kernel
theorem dX2_mercy_70 : decode cX2_mercy 70 = .ok (.iconst 2, 1) := by decide +kernel
theorem dX2_mercy_71 : decode cX2_mercy 71 = .ok (.if_icmp .lt 10, 3) := by decide +kernel
theorem dX2_mercy_74 : decode cX2_mercy 74 = .ok (.iload 5, 2) := by decide +kernel
theorem dX2_mercy_76 : decode cX2_mercy 76 = .ok (.iconst 1, 1) := by decide +kernel
theorem dX2_mercy_77 : decode cX2_mercy 77 = .ok (.iadd, 1) := by decide +kernel
theorem dX2_mercy_78 : decode cX2_mercy 78 = .ok (.goto 5, 3) := by decide +kernel
theorem dX2_mercy_81 : decode cX2_mercy 81 = .ok (.iload 5, 2) := by decide +kernel
theorem dX2_mercy_83 : decode cX2_mercy 83 = .ok (.ireturn, 1) := by decide +kernel
theorem dX2_mercy_84 : decode cX2_mercy 84 = .ok (.iload 4, 2) := by decide +kernel
theorem dX2_mercy_86 : decode cX2_mercy 86 = .ok (.bipush 9, 2) := by decide +kernel
theorem dX2_mercy_88 : decode cX2_mercy 88 = .ok (.iload_n 2, 1) := by decide +kernel
theorem dX2_mercy_89 : decode cX2_mercy 89 = .ok (.bipush 10, 2) := by decide +kernel
theorem dX2_mercy_91 : decode cX2_mercy 91 = .ok (.idiv, 1) := by decide +kernel
theorem dX2_mercy_92 : decode cX2_mercy 92 = .ok (.invokestatic 13, 3) := by decide +kernel
theorem dX2_mercy_95 : decode cX2_mercy 95 = .ok (.iadd, 1) := by decide +kernel
theorem dX2_mercy_96 : decode cX2_mercy 96 = .ok (.ireturn, 1) := by decide +kernel
theorem dX2_mercy_97 : decode cX2_mercy 97 = .ok (.iload_n 3, 1) := by decide +kernel
theorem dX2_mercy_98 : decode cX2_mercy 98 = .ok (.ireturn, 1) := by decide +kernel
set_option maxRecDepth 20000 in
theorem ggX3_resting_X11_holds : GoodIn wsX3_resting wsX11_holds := goodIn_r _ [3] (by decide +kernel) (by decide +kernel)
set_option maxRecDepth 20000 in
theorem gX3_resting_X11_holds_n7 : GoodIn wsX3_resting (wsX11_holds) := ggX3_resting_X11_holds
set_option maxRecDepth 20000 in
theorem ggX3_resting_X3_gain : GoodIn wsX3_resting wsX3_gain := goodIn_r _ [7] (by decide +kernel) (by decide +kernel)
set_option maxRecDepth 20000 in
theorem gX3_resting_X3_gain : GoodIn wsX3_resting (va_wsS RX3 13 yX3_gain wsX3_gain) := goodIn_app (goodIn_of _ (by decide +kernel)) ggX3_resting_X3_gain
theorem dX3_resting_0 : decode cX3_resting 0 = .ok (.iconst 0, 1) := by decide +kernel
theorem dX3_resting_1 : decode cX3_resting 1 = .ok (.istore_n 2, 1) := by decide +kernel
theorem dX3_resting_2 : decode cX3_resting 2 = .ok (.iconst 0, 1) := by decide +kernel
theorem dX3_resting_3 : decode cX3_resting 3 = .ok (.istore_n 3, 1) := by decide +kernel
theorem dX3_resting_4 : decode cX3_resting 4 = .ok (.iload_n 3, 1) := by decide +kernel
theorem dX3_resting_5 : decode cX3_resting 5 = .ok (.iconst 4, 1) := by decide +kernel
theorem dX3_resting_6 : decode cX3_resting 6 = .ok (.if_icmp .ge 83, 3) := by decide +kernel
theorem dX3_resting_9 : decode cX3_resting 9 = .ok (.iload_n 3, 1) := by decide +kernel
theorem dX3_resting_10 : decode cX3_resting 10 = .ok (.iconst 0, 1) := by decide +kernel
theorem dX3_resting_11 : decode cX3_resting 11 = .ok (.invokestatic 7, 3) := by decide +kernel
theorem dX3_resting_14 : decode cX3_resting 14 = .ok (.istore 4, 2) := by decide +kernel
theorem dX3_resting_16 : decode cX3_resting 16 = .ok (.iload_n 3, 1) := by decide +kernel
theorem dX3_resting_17 : decode cX3_resting 17 = .ok (.iconst 1, 1) := by decide +kernel
theorem dX3_resting_18 : decode cX3_resting 18 = .ok (.invokestatic 7, 3) := by decide +kernel
theorem dX3_resting_21 : decode cX3_resting 21 = .ok (.istore 5, 2) := by decide +kernel
theorem dX3_resting_23 : decode cX3_resting 23 = .ok (.iload 4, 2) := by decide +kernel
theorem dX3_resting_25 : decode cX3_resting 25 = .ok (.iload 5, 2) := by decide +kernel
theorem dX3_resting_27 : decode cX3_resting 27 = .ok (.iload_n 0, 1) := by decide +kernel
theorem dX3_resting_28 : decode cX3_resting 28 = .ok (.invokestatic 13, 3) := by decide +kernel
theorem dX3_resting_31 : decode cX3_resting 31 = .ok (.iload 4, 2) := by decide +kernel
theorem dX3_resting_33 : decode cX3_resting 33 = .ok (.ifCond .ne 7, 3) := by decide +kernel
theorem dX3_resting_36 : decode cX3_resting 36 = .ok (.iconst 1, 1) := by decide +kernel
theorem dX3_resting_37 : decode cX3_resting 37 = .ok (.goto 4, 3) := by decide +kernel
theorem dX3_resting_40 : decode cX3_resting 40 = .ok (.iconst 0, 1) := by decide +kernel
theorem dX3_resting_41 : decode cX3_resting 41 = .ok (.iload 5, 2) := by decide +kernel
theorem dX3_resting_43 : decode cX3_resting 43 = .ok (.iload_n 0, 1) := by decide +kernel
theorem dX3_resting_44 : decode cX3_resting 44 = .ok (.invokestatic 13, 3) := by decide +kernel
theorem dX3_resting_47 : decode cX3_resting 47 = .ok (.if_icmp .lt 36, 3) := by decide +kernel
theorem dX3_resting_50 : decode cX3_resting 50 = .ok (.iload 5, 2) := by decide +kernel
theorem dX3_resting_52 : decode cX3_resting 52 = .ok (.iload 4, 2) := by decide +kernel
theorem dX3_resting_54 : decode cX3_resting 54 = .ok (.iload_n 1, 1) := by decide +kernel
theorem dX3_resting_55 : decode cX3_resting 55 = .ok (.invokestatic 13, 3) := by decide +kernel
theorem dX3_resting_58 : decode cX3_resting 58 = .ok (.iload 5, 2) := by decide +kernel
theorem dX3_resting_60 : decode cX3_resting 60 = .ok (.ifCond .ne 7, 3) := by decide +kernel
theorem dX3_resting_63 : decode cX3_resting 63 = .ok (.iconst 1, 1) := by decide +kernel
theorem dX3_resting_64 : decode cX3_resting 64 = .ok (.goto 4, 3) := by decide +kernel
theorem dX3_resting_67 : decode cX3_resting 67 = .ok (.iconst 0, 1) := by decide +kernel
theorem dX3_resting_68 : decode cX3_resting 68 = .ok (.iload 4, 2) := by decide +kernel
theorem dX3_resting_70 : decode cX3_resting 70 = .ok (.iload_n 1, 1) := by decide +kernel
theorem dX3_resting_71 : decode cX3_resting 71 = .ok (.invokestatic 13, 3) := by decide +kernel
theorem dX3_resting_74 : decode cX3_resting 74 = .ok (.if_icmp .lt 9, 3) := by decide +kernel
theorem dX3_resting_77 : decode cX3_resting 77 = .ok (.iload_n 2, 1) := by decide +kernel
theorem dX3_resting_78 : decode cX3_resting 78 = .ok (.iconst 1, 1) := by decide +kernel
theorem dX3_resting_79 : decode cX3_resting 79 = .ok (.iload_n 3, 1) := by decide +kernel
theorem dX3_resting_80 : decode cX3_resting 80 = .ok (.ishl, 1) := by decide +kernel
theorem dX3_resting_81 : decode cX3_resting 81 = .ok (.ior, 1) := by decide +kernel
theorem dX3_resting_82 : decode cX3_resting 82 = .ok (.istore_n 2, 1) := by decide +kernel
theorem dX3_resting_83 : decode cX3_resting 83 = .ok (.iinc 3 1, 3) := by decide +kernel
theorem dX3_resting_86 : decode cX3_resting 86 = .ok (.goto (-82), 3) := by decide +kernel
theorem dX3_resting_89 : decode cX3_resting 89 = .ok (.iload_n 2, 1) := by decide +kernel
theorem dX3_resting_90 : decode cX3_resting 90 = .ok (.ireturn, 1) := by decide +kernel
theorem dX3_gain_0 : decode cX3_gain 0 = .ok (.iconst 0, 1) := by decide +kernel
theorem dX3_gain_1 : decode cX3_gain 1 = .ok (.istore_n 3, 1) := by decide +kernel
theorem dX3_gain_2 : decode cX3_gain 2 = .ok (.iload_n 1, 1) := by decide +kernel
theorem dX3_gain_3 : decode cX3_gain 3 = .ok (.ifCond .eq 6, 3) := by decide +kernel
theorem dX3_gain_6 : decode cX3_gain 6 = .ok (.iinc 3 6, 3) := by decide +kernel
theorem dX3_gain_9 : decode cX3_gain 9 = .ok (.iload_n 0, 1) := by decide +kernel
theorem dX3_gain_10 : decode cX3_gain 10 = .ok (.ifCond .eq 16, 3) := by decide +kernel
theorem dX3_gain_13 : decode cX3_gain 13 = .ok (.iload_n 3, 1) := by decide +kernel
theorem dX3_gain_14 : decode cX3_gain 14 = .ok (.iload_n 2, 1) := by decide +kernel
theorem dX3_gain_15 : decode cX3_gain 15 = .ok (.ifCond .eq 8, 3) := by decide +kernel
theorem dX3_gain_18 : decode cX3_gain 18 = .ok (.bipush 11, 2) := by decide +kernel
theorem dX3_gain_20 : decode cX3_gain 20 = .ok (.goto 4, 3) := by decide +kernel
theorem dX3_gain_23 : decode cX3_gain 23 = .ok (.iconst 2, 1) := by decide +kernel
theorem dX3_gain_24 : decode cX3_gain 24 = .ok (.isub, 1) := by decide +kernel
theorem dX3_gain_25 : decode cX3_gain 25 = .ok (.istore_n 3, 1) := by decide +kernel
theorem dX3_gain_26 : decode cX3_gain 26 = .ok (.iload_n 0, 1) := by decide +kernel
theorem dX3_gain_27 : decode cX3_gain 27 = .ok (.ifCond .eq 10, 3) := by decide +kernel
theorem dX3_gain_30 : decode cX3_gain 30 = .ok (.iload_n 1, 1) := by decide +kernel
theorem dX3_gain_31 : decode cX3_gain 31 = .ok (.ifCond .eq 6, 3) := by decide +kernel
theorem dX3_gain_34 : decode cX3_gain 34 = .ok (.iinc 3 3, 3) := by decide +kernel
theorem dX3_gain_37 : decode cX3_gain 37 = .ok (.iload_n 0, 1) := by decide +kernel
theorem dX3_gain_38 : decode cX3_gain 38 = .ok (.ifCond .ne 10, 3) := by decide +kernel
theorem dX3_gain_41 : decode cX3_gain 41 = .ok (.iload_n 1, 1) := by decide +kernel
theorem dX3_gain_42 : decode cX3_gain 42 = .ok (.ifCond .ne 6, 3) := by decide +kernel
theorem dX3_gain_45 : decode cX3_gain 45 = .ok (.iinc 3 (-4), 3) := by decide +kernel
theorem dX3_gain_48 : decode cX3_gain 48 = .ok (.iload_n 3, 1) := by decide +kernel
theorem dX3_gain_49 : decode cX3_gain 49 = .ok (.ireturn, 1) := by decide +kernel
theorem dX4_init_0 : decode cX4_init 0 = .ok (.aload_n 0, 1) := by decide +kernel
theorem dX4_init_1 : decode cX4_init 1 = .ok (.invokespecial 3, 3) := by decide +kernel
theorem dX4_init_4 : decode cX4_init 4 = .ok (.aload_n 0, 1) := by decide +kernel
theorem dX4_init_5 : decode cX4_init 5 = .ok (.sipush 128, 3) := by decide +kernel
theorem dX4_init_8 : decode cX4_init 8 = .ok (.newarray .int, 2) := by decide +kernel
theorem dX4_init_10 : decode cX4_init 10 = .ok (.putfield 11, 3) := by decide +kernel
theorem dX4_init_13 : decode cX4_init 13 = .ok (.return_, 1) := by decide +kernel
theorem dX4_push_0 : decode cX4_push 0 = .ok (.aload_n 0, 1) := by decide +kernel
theorem dX4_push_1 : decode cX4_push 1 = .ok (.getfield 15, 3) := by decide +kernel
theorem dX4_push_4 : decode cX4_push 4 = .ok (.bipush 8, 2) := by decide +kernel
theorem dX4_push_6 : decode cX4_push 6 = .ok (.if_icmp .ne 29, 3) := by decide +kernel
theorem dX4_push_9 : decode cX4_push 9 = .ok (.aload_n 0, 1) := by decide +kernel
theorem dX4_push_10 : decode cX4_push 10 = .ok (.getfield 11, 3) := by decide +kernel
theorem dX4_push_13 : decode cX4_push 13 = .ok (.bipush 16, 2) := by decide +kernel
theorem dX4_push_15 : decode cX4_push 15 = .ok (.aload_n 0, 1) := by decide +kernel
theorem dX4_push_16 : decode cX4_push 16 = .ok (.getfield 11, 3) := by decide +kernel
theorem dX4_push_19 : decode cX4_push 19 = .ok (.iconst 0, 1) := by decide +kernel
theorem dX4_push_20 : decode cX4_push 20 = .ok (.bipush 112, 2) := by decide +kernel
theorem dX4_push_22 : decode cX4_push 22 = .ok (.invokestatic 19, 3) := by decide +kernel
theorem dX4_push_25 : decode cX4_push 25 = .ok (.aload_n 0, 1) := by decide +kernel
theorem dX4_push_26 : decode cX4_push 26 = .ok (.dup, 1) := by decide +kernel
theorem dX4_push_27 : decode cX4_push 27 = .ok (.getfield 15, 3) := by decide +kernel
theorem dX4_push_30 : decode cX4_push 30 = .ok (.iconst 1, 1) := by decide +kernel
theorem dX4_push_31 : decode cX4_push 31 = .ok (.isub, 1) := by decide +kernel
theorem dX4_push_32 : decode cX4_push 32 = .ok (.putfield 15, 3) := by decide +kernel
theorem dX4_push_35 : decode cX4_push 35 = .ok (.aload_n 0, 1) := by decide +kernel
theorem dX4_push_36 : decode cX4_push 36 = .ok (.getfield 15, 3) := by decide +kernel
theorem dX4_push_39 : decode cX4_push 39 = .ok (.bipush 16, 2) := by decide +kernel
theorem dX4_push_41 : decode cX4_push 41 = .ok (.imul, 1) := by decide +kernel
theorem dX4_push_42 : decode cX4_push 42 = .ok (.istore_n 2, 1) := by decide +kernel
theorem dX4_push_43 : decode cX4_push 43 = .ok (.aload_n 1, 1) := by decide +kernel
theorem dX4_push_44 : decode cX4_push 44 = .ok (.getfield 25, 3) := by decide +kernel
theorem dX4_push_47 : decode cX4_push 47 = .ok (.iconst 0, 1) := by decide +kernel
theorem dX4_push_48 : decode cX4_push 48 = .ok (.aload_n 0, 1) := by decide +kernel
theorem dX4_push_49 : decode cX4_push 49 = .ok (.getfield 11, 3) := by decide +kernel
theorem dX4_push_52 : decode cX4_push 52 = .ok (.iload_n 2, 1) := by decide +kernel
theorem dX4_push_53 : decode cX4_push 53 = .ok (.bipush 6, 2) := by decide +kernel
theorem dX4_push_55 : decode cX4_push 55 = .ok (.invokestatic 19, 3) := by decide +kernel
theorem dX4_push_58 : decode cX4_push 58 = .ok (.aload_n 1, 1) := by decide +kernel
theorem dX4_push_59 : decode cX4_push 59 = .ok (.getfield 30, 3) := by decide +kernel
theorem dX4_push_62 : decode cX4_push 62 = .ok (.iconst 0, 1) := by decide +kernel
theorem dX4_push_63 : decode cX4_push 63 = .ok (.aload_n 0, 1) := by decide +kernel
theorem dX4_push_64 : decode cX4_push 64 = .ok (.getfield 11, 3) := by decide +kernel
theorem dX4_push_67 : decode cX4_push 67 = .ok (.iload_n 2, 1) := by decide +kernel
theorem dX4_push_68 : decode cX4_push 68 = .ok (.bipush 6, 2) := by decide +kernel
theorem dX4_push_70 : decode cX4_push 70 = .ok (.iadd, 1) := by decide +kernel
theorem dX4_push_71 : decode cX4_push 71 = .ok (.bipush 8, 2) := by decide +kernel
theorem dX4_push_73 : decode cX4_push 73 = .ok (.invokestatic 19, 3) := by decide +kernel
theorem dX4_push_76 : decode cX4_push 76 = .ok (.aload_n 0, 1) := by decide +kernel
theorem dX4_push_77 : decode cX4_push 77 = .ok (.getfield 11, 3) := by decide +kernel
theorem dX4_push_80 : decode cX4_push 80 = .ok (.iload_n 2, 1) := by decide +kernel
theorem dX4_push_81 : decode cX4_push 81 = .ok (.bipush 16, 2) := by decide +kernel
theorem dX4_push_83 : decode cX4_push 83 = .ok (.iadd, 1) := by decide +kernel
theorem dX4_push_84 : decode cX4_push 84 = .ok (.iconst 2, 1) := by decide +kernel
theorem dX4_push_85 : decode cX4_push 85 = .ok (.isub, 1) := by decide +kernel
theorem dX4_push_86 : decode cX4_push 86 = .ok (.aload_n 1, 1) := by decide +kernel
theorem dX4_push_87 : decode cX4_push 87 = .ok (.getfield 33, 3) := by decide +kernel
theorem dX4_push_90 : decode cX4_push 90 = .ok (.iastore, 1) := by decide +kernel
theorem dX4_push_91 : decode cX4_push 91 = .ok (.aload_n 0, 1) := by decide +kernel
theorem dX4_push_92 : decode cX4_push 92 = .ok (.getfield 11, 3) := by decide +kernel
theorem dX4_push_95 : decode cX4_push 95 = .ok (.iload_n 2, 1) := by decide +kernel
theorem dX4_push_96 : decode cX4_push 96 = .ok (.bipush 16, 2) := by decide +kernel
theorem dX4_push_98 : decode cX4_push 98 = .ok (.iadd, 1) := by decide +kernel
theorem dX4_push_99 : decode cX4_push 99 = .ok (.iconst 1, 1) := by decide +kernel
theorem dX4_push_100 : decode cX4_push 100 = .ok (.isub, 1) := by decide +kernel
theorem dX4_push_101 : decode cX4_push 101 = .ok (.aload_n 1, 1) := by decide +kernel
theorem dX4_push_102 : decode cX4_push 102 = .ok (.getfield 36, 3) := by decide +kernel
theorem dX4_push_105 : decode cX4_push 105 = .ok (.iastore, 1) := by decide +kernel
theorem dX4_push_106 : decode cX4_push 106 = .ok (.aload_n 0, 1) := by decide +kernel
theorem dX4_push_107 : decode cX4_push 107 = .ok (.dup, 1) := by decide +kernel
theorem dX4_push_108 : decode cX4_push 108 = .ok (.getfield 15, 3) := by decide +kernel
theorem dX4_push_111 : decode cX4_push 111 = .ok (.iconst 1, 1) := by decide +kernel
theorem dX4_push_112 : decode cX4_push 112 = .ok (.iadd, 1) := by decide +kernel
theorem dX4_push_113 : decode cX4_push 113 = .ok (.putfield 15, 3) := by decide +kernel
theorem dX4_push_116 : decode cX4_push 116 = .ok (.return_, 1) := by decide +kernel
theorem dX4_pop_0 : decode cX4_pop 0 = .ok (.aload_n 0, 1) := by decide +kernel
theorem dX4_pop_1 : decode cX4_pop 1 = .ok (.getfield 15, 3) := by decide +kernel
theorem dX4_pop_4 : decode cX4_pop 4 = .ok (.ifCond .ne 4, 3) := by decide +kernel
theorem dX4_pop_7 : decode cX4_pop 7 = .ok (.return_, 1) := by decide +kernel
theorem dX4_pop_8 : decode cX4_pop 8 = .ok (.aload_n 0, 1) := by decide +kernel
theorem dX4_pop_9 : decode cX4_pop 9 = .ok (.dup, 1) := by decide +kernel
theorem dX4_pop_10 : decode cX4_pop 10 = .ok (.getfield 15, 3) := by decide +kernel
theorem dX4_pop_13 : decode cX4_pop 13 = .ok (.iconst 1, 1) := by decide +kernel
theorem dX4_pop_14 : decode cX4_pop 14 = .ok (.isub, 1) := by decide +kernel
theorem dX4_pop_15 : decode cX4_pop 15 = .ok (.putfield 15, 3) := by decide +kernel
theorem dX4_pop_18 : decode cX4_pop 18 = .ok (.aload_n 0, 1) := by decide +kernel
theorem dX4_pop_19 : decode cX4_pop 19 = .ok (.getfield 15, 3) := by decide +kernel
theorem dX4_pop_22 : decode cX4_pop 22 = .ok (.bipush 16, 2) := by decide +kernel
theorem dX4_pop_24 : decode cX4_pop 24 = .ok (.imul, 1) := by decide +kernel
theorem dX4_pop_25 : decode cX4_pop 25 = .ok (.istore_n 2, 1) := by decide +kernel
theorem dX4_pop_26 : decode cX4_pop 26 = .ok (.aload_n 0, 1) := by decide +kernel
theorem dX4_pop_27 : decode cX4_pop 27 = .ok (.getfield 11, 3) := by decide +kernel
theorem dX4_pop_30 : decode cX4_pop 30 = .ok (.iload_n 2, 1) := by decide +kernel
theorem dX4_pop_31 : decode cX4_pop 31 = .ok (.aload_n 1, 1) := by decide +kernel
theorem dX4_pop_32 : decode cX4_pop 32 = .ok (.getfield 25, 3) := by decide +kernel
theorem dX4_pop_35 : decode cX4_pop 35 = .ok (.iconst 0, 1) := by decide +kernel
theorem dX4_pop_36 : decode cX4_pop 36 = .ok (.bipush 6, 2) := by decide +kernel
theorem dX4_pop_38 : decode cX4_pop 38 = .ok (.invokestatic 19, 3) := by decide +kernel
theorem dX4_pop_41 : decode cX4_pop 41 = .ok (.aload_n 0, 1) := by decide +kernel
theorem dX4_pop_42 : decode cX4_pop 42 = .ok (.getfield 11, 3) := by decide +kernel
theorem dX4_pop_45 : decode cX4_pop 45 = .ok (.iload_n 2, 1) := by decide +kernel
theorem dX4_pop_46 : decode cX4_pop 46 = .ok (.bipush 6, 2) := by decide +kernel
theorem dX4_pop_48 : decode cX4_pop 48 = .ok (.iadd, 1) := by decide +kernel
theorem dX4_pop_49 : decode cX4_pop 49 = .ok (.aload_n 1, 1) := by decide +kernel
theorem dX4_pop_50 : decode cX4_pop 50 = .ok (.getfield 30, 3) := by decide +kernel
theorem dX4_pop_53 : decode cX4_pop 53 = .ok (.iconst 0, 1) := by decide +kernel
theorem dX4_pop_54 : decode cX4_pop 54 = .ok (.bipush 8, 2) := by decide +kernel
theorem dX4_pop_56 : decode cX4_pop 56 = .ok (.invokestatic 19, 3) := by decide +kernel
theorem dX4_pop_59 : decode cX4_pop 59 = .ok (.aload_n 1, 1) := by decide +kernel
theorem dX4_pop_60 : decode cX4_pop 60 = .ok (.aload_n 0, 1) := by decide +kernel
theorem dX4_pop_61 : decode cX4_pop 61 = .ok (.getfield 11, 3) := by decide +kernel
theorem dX4_pop_64 : decode cX4_pop 64 = .ok (.iload_n 2, 1) := by decide +kernel
theorem dX4_pop_65 : decode cX4_pop 65 = .ok (.bipush 16, 2) := by decide +kernel
theorem dX4_pop_67 : decode cX4_pop 67 = .ok (.iadd, 1) := by decide +kernel
theorem dX4_pop_68 : decode cX4_pop 68 = .ok (.iconst 2, 1) := by decide +kernel
theorem dX4_pop_69 : decode cX4_pop 69 = .ok (.isub, 1) := by decide +kernel
theorem dX4_pop_70 : decode cX4_pop 70 = .ok (.iaload, 1) := by decide +kernel
theorem dX4_pop_71 : decode cX4_pop 71 = .ok (.putfield 33, 3) := by decide +kernel
theorem dX4_pop_74 : decode cX4_pop 74 = .ok (.aload_n 1, 1) := by decide +kernel
theorem dX4_pop_75 : decode cX4_pop 75 = .ok (.aload_n 0, 1) := by decide +kernel
theorem dX4_pop_76 : decode cX4_pop 76 = .ok (.getfield 11, 3) := by decide +kernel
theorem dX4_pop_79 : decode cX4_pop 79 = .ok (.iload_n 2, 1) := by decide +kernel
theorem dX4_pop_80 : decode cX4_pop 80 = .ok (.bipush 16, 2) := by decide +kernel
theorem dX4_pop_82 : decode cX4_pop 82 = .ok (.iadd, 1) := by decide +kernel
theorem dX4_pop_83 : decode cX4_pop 83 = .ok (.iconst 1, 1) := by decide +kernel
theorem dX4_pop_84 : decode cX4_pop 84 = .ok (.isub, 1) := by decide +kernel
theorem dX4_pop_85 : decode cX4_pop 85 = .ok (.iaload, 1) := by decide +kernel
theorem dX4_pop_86 : decode cX4_pop 86 = .ok (.putfield 36, 3) := by decide +kernel
theorem dX4_pop_89 : decode cX4_pop 89 = .ok (.return_, 1) := by decide +kernel
theorem dX4_take_0 : decode cX4_take 0 = .ok (.aload_n 1, 1) := by decide +kernel
theorem dX4_take_1 : decode cX4_take 1 = .ok (.getfield 11, 3) := by decide +kernel
theorem dX4_take_4 : decode cX4_take 4 = .ok (.iconst 0, 1) := by decide +kernel
theorem dX4_take_5 : decode cX4_take 5 = .ok (.aload_n 0, 1) := by decide +kernel
theorem dX4_take_6 : decode cX4_take 6 = .ok (.getfield 11, 3) := by decide +kernel
theorem dX4_take_9 : decode cX4_take 9 = .ok (.iconst 0, 1) := by decide +kernel
theorem dX4_take_10 : decode cX4_take 10 = .ok (.aload_n 0, 1) := by decide +kernel
theorem dX4_take_11 : decode cX4_take 11 = .ok (.getfield 11, 3) := by decide +kernel
theorem dX4_take_14 : decode cX4_take 14 = .ok (.arraylength, 1) := by decide +kernel
theorem dX4_take_15 : decode cX4_take 15 = .ok (.invokestatic 19, 3) := by decide +kernel
theorem dX4_take_18 : decode cX4_take 18 = .ok (.aload_n 0, 1) := by decide +kernel
theorem dX4_take_19 : decode cX4_take 19 = .ok (.aload_n 1, 1) := by decide +kernel
theorem dX4_take_20 : decode cX4_take 20 = .ok (.getfield 15, 3) := by decide +kernel
theorem dX4_take_23 : decode cX4_take 23 = .ok (.putfield 15, 3) := by decide +kernel
theorem dX4_take_26 : decode cX4_take 26 = .ok (.return_, 1) := by decide +kernel
set_option maxRecDepth 20000 in
theorem ggX5_init_X10_init : GoodIn wsX5_init wsX10_init := goodIn_r _ [11, 12, 2, 3, 8, 13, 14, 15, 16, 17, 18, 19, 20, 21, 22, 23, 24, 25, 26, 27, 28, 29, 30, 31, 32, 33, 34, 35, 36, 37, 38, 39, 40, 41, 42, 43, 44, 45, 46, 47, 48, 49, 50, 51, 52, 53, 54, 57, 58, 59, 60, 61] (by decide +kernel) (by decide +kernel)
set_option maxRecDepth 20000 in
theorem gX5_init_X10_init_n11 : GoodIn wsX5_init (wsX10_init) := ggX5_init_X10_init
theorem dX5_init_0 : decode cX5_init 0 = .ok (.aload_n 0, 1) := by decide +kernel
theorem dX5_init_1 : decode cX5_init 1 = .ok (.invokespecial 3, 3) := by decide +kernel
theorem dX5_init_4 : decode cX5_init 4 = .ok (.aload_n 0, 1) := by decide +kernel
theorem dX5_init_5 : decode cX5_init 5 = .ok (.new 9, 3) := by decide +kernel
theorem dX5_init_8 : decode cX5_init 8 = .ok (.dup, 1) := by decide +kernel
theorem dX5_init_9 : decode cX5_init 9 = .ok (.invokespecial 11, 3) := by decide +kernel
theorem dX5_init_12 : decode cX5_init 12 = .ok (.putfield 12, 3) := by decide +kernel
theorem dX5_init_15 : decode cX5_init 15 = .ok (.aload_n 0, 1) := by decide +kernel
theorem dX5_init_16 : decode cX5_init 16 = .ok (.iconst 4, 1) := by decide +kernel
theorem dX5_init_17 : decode cX5_init 17 = .ok (.newarray .int, 2) := by decide +kernel
theorem dX5_init_19 : decode cX5_init 19 = .ok (.putfield 18, 3) := by decide +kernel
theorem dX5_init_22 : decode cX5_init 22 = .ok (.return_, 1) := by decide +kernel
set_option maxRecDepth 20000 in
theorem ggX5_items_X10_empty : GoodIn wsX5_items wsX10_empty := goodIn_r _ [8, 9, 10, 11, 12, 13, 14, 15, 16, 17, 18, 206, 207, 208, 209, 210, 211, 212, 213, 214, 215, 216, 217, 218, 219, 220, 221, 222, 223, 224, 225] (by decide +kernel) (by decide +kernel)
set_option maxRecDepth 20000 in
theorem gX5_items_X10_empty : GoodIn wsX5_items (wsV RX5 22 RX10 yX10_empty wsX10_empty) := goodIn_app (goodIn_of _ (by decide +kernel)) ggX5_items_X10_empty
set_option maxRecDepth 20000 in
theorem ggX5_items_X9_rewind : GoodIn wsX5_items wsX9_rewind := goodIn_r _ [23, 24, 200, 201, 202, 203, 204, 205] (by decide +kernel) (by decide +kernel)
set_option maxRecDepth 20000 in
theorem gX5_items_X9_rewind : GoodIn wsX5_items (wsV RX5 25 RX9 yX9_rewind wsX9_rewind) := goodIn_app (goodIn_of _ (by decide +kernel)) ggX5_items_X9_rewind
set_option maxRecDepth 20000 in
theorem ggX5_items_X9_step : GoodIn wsX5_items wsX9_step := goodIn_r _ [28, 24, 29, 30, 31, 32, 33, 34, 35, 22, 36, 37, 38, 39, 40, 41, 42, 43, 44, 45, 46, 47, 48, 49, 50, 51, 52, 53, 54, 55, 56, 57, 58, 59, 60, 61, 62, 63, 64, 65, 66, 67, 68, 69, 70, 71, 72, 73, 74, 75, 76, 77, 78, 79, 80, 81, 82, 83, 84, 85, 86, 87, 88, 89, 90, 91, 92, 93, 94, 95, 96, 97, 98, 99, 100, 101, 102, 103, 200, 201, 202, 203, 204, 205] (by decide +kernel) (by decide +kernel)
set_option maxRecDepth 20000 in
theorem gX5_items_X9_step : GoodIn wsX5_items (wsV RX5 30 RX9 yX9_step wsX9_step) := goodIn_app (goodIn_of _ (by decide +kernel)) ggX5_items_X9_step
set_option maxRecDepth 20000 in
theorem ggX5_items_X5_canStand : GoodIn wsX5_items wsX5_canStand := goodIn_r _ [108, 1, 109, 110, 198, 199, 206, 207, 208, 209, 210, 211, 212, 213, 214, 215, 216, 217, 218, 219, 220] (by decide +kernel) (by decide +kernel)
set_option maxRecDepth 20000 in
theorem gX5_items_X5_canStand : GoodIn wsX5_items (wsV RX5 40 RX5 yX5_canStand wsX5_canStand) := goodIn_app (goodIn_of _ (by decide +kernel)) ggX5_items_X5_canStand
set_option maxRecDepth 20000 in
theorem ggX5_items_X5_readsNumbers : GoodIn wsX5_items wsX5_readsNumbers := goodIn_r _ [114, 2, 3, 115, 116, 117, 107, 118, 25, 26, 27, 22, 28, 24, 29, 30, 31, 32, 33, 34, 35, 36, 37, 38, 39, 40, 41, 42, 43, 44, 45, 46, 47, 48, 49, 50, 51, 52, 53, 54, 55, 56, 57, 58, 59, 60, 61, 62, 63, 64, 65, 66, 67, 68, 69, 70, 71, 72, 73, 74, 75, 76, 77, 78, 79, 80, 81, 82, 83, 84, 85, 86, 87, 88, 89, 90, 91, 92, 93, 94, 95, 96, 97, 98, 99, 100, 101, 102, 103, 119, 120, 121, 122, 1, 123, 124, 125, 126, 127, 128, 129, 7, 130, 9, 131, 132, 133, 134, 135, 136, 137, 10, 138, 139, 140, 141, 11, 142, 143, 144, 145, 146, 147, 148, 149, 150, 151, 152, 153, 154, 155, 156, 157, 158, 159, 160, 161, 162, 163, 164, 165, 166, 167, 168, 169, 170, 171, 172, 173, 174, 12, 175, 176, 177, 200, 201, 202, 203, 204, 205, 198, 199, 206, 207, 208, 209, 210, 211, 212, 213, 214, 215, 216, 217, 218, 219, 220] (by decide +kernel) (by decide +kernel)
set_option maxRecDepth 20000 in
theorem gX5_items_X5_readsNumbers : GoodIn wsX5_items (wsV RX5 44 RX5 yX5_readsNumbers wsX5_readsNumbers) := goodIn_app (goodIn_of _ (by decide +kernel)) ggX5_items_X5_readsNumbers
set_option maxRecDepth 20000 in
theorem ggX5_items_X5_carryOut : GoodIn wsX5_items wsX5_carryOut := goodIn_r _ [181, 1, 115, 182, 183, 184, 7, 185, 174, 9, 172, 186, 187, 188, 189, 149, 10, 173, 142, 150, 155, 190, 191, 192, 193, 11, 194, 195, 196, 197, 12, 156, 157, 158, 159, 143, 132, 144, 151, 152, 153, 154, 198, 199, 206, 207, 208, 209, 210, 211, 212, 213, 214, 215, 216, 217, 218, 219, 220] (by decide +kernel) (by decide +kernel)
set_option maxRecDepth 20000 in
theorem gX5_items_X5_carryOut : GoodIn wsX5_items (wsV RX5 48 RX5 yX5_carryOut wsX5_carryOut) := goodIn_app (goodIn_of _ (by decide +kernel)) ggX5_items_X5_carryOut
theorem dX5_items_0 : decode cX5_items 0 = .ok (.aload_n 0, 1) := by decide +kernel
theorem dX5_items_1 : decode cX5_items 1 = .ok (.getfield 12, 3) := by decide +kernel
theorem dX5_items_4 : decode cX5_items 4 = .ok (.invokevirtual 22, 3) := by decide +kernel
theorem dX5_items_7 : decode cX5_items 7 = .ok (.aload_n 1, 1) := by decide +kernel
theorem dX5_items_8 : decode cX5_items 8 = .ok (.invokevirtual 25, 3) := by decide +kernel
theorem dX5_items_11 : decode cX5_items 11 = .ok (.iconst 0, 1) := by decide +kernel
theorem dX5_items_12 : decode cX5_items 12 = .ok (.istore_n 2, 1) := by decide +kernel
theorem dX5_items_13 : decode cX5_items 13 = .ok (.iload_n 2, 1) := by decide +kernel
theorem dX5_items_14 : decode cX5_items 14 = .ok (.sipush 150, 3) := by decide +kernel
theorem dX5_items_17 : decode cX5_items 17 = .ok (.if_icmp .gt 82, 3) := by decide +kernel
theorem dX5_items_20 : decode cX5_items 20 = .ok (.aload_n 1, 1) := by decide +kernel
theorem dX5_items_21 : decode cX5_items 21 = .ok (.invokevirtual 30, 3) := by decide +kernel
theorem dX5_items_24 : decode cX5_items 24 = .ok (.aload_n 1, 1) := by decide +kernel
theorem dX5_items_25 : decode cX5_items 25 = .ok (.getfield 33, 3) := by decide +kernel
theorem dX5_items_28 : decode cX5_items 28 = .ok (.ifCond .ne 13, 3) := by decide +kernel
theorem dX5_items_31 : decode cX5_items 31 = .ok (.iload_n 2, 1) := by decide +kernel
theorem dX5_items_32 : decode cX5_items 32 = .ok (.ifCond .le 7, 3) := by decide +kernel
theorem dX5_items_35 : decode cX5_items 35 = .ok (.iload_n 2, 1) := by decide +kernel
theorem dX5_items_36 : decode cX5_items 36 = .ok (.goto 4, 3) := by decide +kernel
theorem dX5_items_39 : decode cX5_items 39 = .ok (.iconst (-1), 1) := by decide +kernel
theorem dX5_items_40 : decode cX5_items 40 = .ok (.ireturn, 1) := by decide +kernel
theorem dX5_items_41 : decode cX5_items 41 = .ok (.aload_n 1, 1) := by decide +kernel
theorem dX5_items_42 : decode cX5_items 42 = .ok (.getfield 37, 3) := by decide +kernel
theorem dX5_items_45 : decode cX5_items 45 = .ok (.istore_n 3, 1) := by decide +kernel
theorem dX5_items_46 : decode cX5_items 46 = .ok (.aload_n 1, 1) := by decide +kernel
theorem dX5_items_47 : decode cX5_items 47 = .ok (.getfield 33, 3) := by decide +kernel
theorem dX5_items_50 : decode cX5_items 50 = .ok (.iconst 1, 1) := by decide +kernel
theorem dX5_items_51 : decode cX5_items 51 = .ok (.if_icmp .ne 21, 3) := by decide +kernel
theorem dX5_items_54 : decode cX5_items 54 = .ok (.aload_n 0, 1) := by decide +kernel
theorem dX5_items_55 : decode cX5_items 55 = .ok (.iload_n 3, 1) := by decide +kernel
theorem dX5_items_56 : decode cX5_items 56 = .ok (.iload_n 2, 1) := by decide +kernel
theorem dX5_items_57 : decode cX5_items 57 = .ok (.invokevirtual 40, 3) := by decide +kernel
theorem dX5_items_60 : decode cX5_items 60 = .ok (.ifCond .eq 12, 3) := by decide +kernel
theorem dX5_items_63 : decode cX5_items 63 = .ok (.aload_n 0, 1) := by decide +kernel
theorem dX5_items_64 : decode cX5_items 64 = .ok (.aload_n 1, 1) := by decide +kernel
theorem dX5_items_65 : decode cX5_items 65 = .ok (.iload_n 3, 1) := by decide +kernel
theorem dX5_items_66 : decode cX5_items 66 = .ok (.invokevirtual 44, 3) := by decide +kernel
theorem dX5_items_69 : decode cX5_items 69 = .ok (.ifCond .ne 5, 3) := by decide +kernel
theorem dX5_items_72 : decode cX5_items 72 = .ok (.iconst (-1), 1) := by decide +kernel
theorem dX5_items_73 : decode cX5_items 73 = .ok (.ireturn, 1) := by decide +kernel
theorem dX5_items_74 : decode cX5_items 74 = .ok (.aload_n 1, 1) := by decide +kernel
theorem dX5_items_75 : decode cX5_items 75 = .ok (.invokevirtual 30, 3) := by decide +kernel
theorem dX5_items_78 : decode cX5_items 78 = .ok (.aload_n 1, 1) := by decide +kernel
theorem dX5_items_79 : decode cX5_items 79 = .ok (.getfield 33, 3) := by decide +kernel
theorem dX5_items_82 : decode cX5_items 82 = .ok (.iconst 3, 1) := by decide +kernel
theorem dX5_items_83 : decode cX5_items 83 = .ok (.if_icmp .eq 5, 3) := by decide +kernel
theorem dX5_items_86 : decode cX5_items 86 = .ok (.iconst (-1), 1) := by decide +kernel
theorem dX5_items_87 : decode cX5_items 87 = .ok (.ireturn, 1) := by decide +kernel
theorem dX5_items_88 : decode cX5_items 88 = .ok (.aload_n 0, 1) := by decide +kernel
theorem dX5_items_89 : decode cX5_items 89 = .ok (.iload_n 3, 1) := by decide +kernel
theorem dX5_items_90 : decode cX5_items 90 = .ok (.invokevirtual 48, 3) := by decide +kernel
theorem dX5_items_93 : decode cX5_items 93 = .ok (.iinc 2 1, 3) := by decide +kernel
theorem dX5_items_96 : decode cX5_items 96 = .ok (.goto (-83), 3) := by decide +kernel
theorem dX5_items_99 : decode cX5_items 99 = .ok (.iconst (-1), 1) := by decide +kernel
theorem dX5_items_100 : decode cX5_items 100 = .ok (.ireturn, 1) := by decide +kernel
theorem dX5_canStand_0 : decode cX5_canStand 0 = .ok (.iload_n 1, 1) := by decide +kernel
theorem dX5_canStand_1 : decode cX5_canStand 1 = .ok (.tableswitch 99 0 4 #[35, 45, 67, 89, 89], 35) := by decide +kernel
theorem dX5_canStand_36 : decode cX5_canStand 36 = .ok (.iload_n 2, 1) := by decide +kernel
theorem dX5_canStand_37 : decode cX5_canStand 37 = .ok (.ifCond .ne 7, 3) := by decide +kernel
theorem dX5_canStand_40 : decode cX5_canStand 40 = .ok (.iconst 1, 1) := by decide +kernel
theorem dX5_canStand_41 : decode cX5_canStand 41 = .ok (.goto 4, 3) := by decide +kernel
theorem dX5_canStand_44 : decode cX5_canStand 44 = .ok (.iconst 0, 1) := by decide +kernel
theorem dX5_canStand_45 : decode cX5_canStand 45 = .ok (.ireturn, 1) := by decide +kernel
theorem dX5_canStand_46 : decode cX5_canStand 46 = .ok (.iload_n 2, 1) := by decide +kernel
theorem dX5_canStand_47 : decode cX5_canStand 47 = .ok (.ifCond .le 19, 3) := by decide +kernel
theorem dX5_canStand_50 : decode cX5_canStand 50 = .ok (.aload_n 0, 1) := by decide +kernel
theorem dX5_canStand_51 : decode cX5_canStand 51 = .ok (.getfield 12, 3) := by decide +kernel
theorem dX5_canStand_54 : decode cX5_canStand 54 = .ok (.getfield 52, 3) := by decide +kernel
theorem dX5_canStand_57 : decode cX5_canStand 57 = .ok (.bipush 6, 2) := by decide +kernel
theorem dX5_canStand_59 : decode cX5_canStand 59 = .ok (.if_icmp .ge 7, 3) := by decide +kernel
theorem dX5_canStand_62 : decode cX5_canStand 62 = .ok (.iconst 1, 1) := by decide +kernel
theorem dX5_canStand_63 : decode cX5_canStand 63 = .ok (.goto 4, 3) := by decide +kernel
theorem dX5_canStand_66 : decode cX5_canStand 66 = .ok (.iconst 0, 1) := by decide +kernel
theorem dX5_canStand_67 : decode cX5_canStand 67 = .ok (.ireturn, 1) := by decide +kernel
theorem dX5_canStand_68 : decode cX5_canStand 68 = .ok (.iload_n 2, 1) := by decide +kernel
theorem dX5_canStand_69 : decode cX5_canStand 69 = .ok (.ifCond .le 19, 3) := by decide +kernel
theorem dX5_canStand_72 : decode cX5_canStand 72 = .ok (.aload_n 0, 1) := by decide +kernel
theorem dX5_canStand_73 : decode cX5_canStand 73 = .ok (.getfield 12, 3) := by decide +kernel
theorem dX5_canStand_76 : decode cX5_canStand 76 = .ok (.getfield 55, 3) := by decide +kernel
theorem dX5_canStand_79 : decode cX5_canStand 79 = .ok (.bipush 8, 2) := by decide +kernel
theorem dX5_canStand_81 : decode cX5_canStand 81 = .ok (.if_icmp .ge 7, 3) := by decide +kernel
theorem dX5_canStand_84 : decode cX5_canStand 84 = .ok (.iconst 1, 1) := by decide +kernel
theorem dX5_canStand_85 : decode cX5_canStand 85 = .ok (.goto 4, 3) := by decide +kernel
theorem dX5_canStand_88 : decode cX5_canStand 88 = .ok (.iconst 0, 1) := by decide +kernel
theorem dX5_canStand_89 : decode cX5_canStand 89 = .ok (.ireturn, 1) := by decide +kernel
theorem dX5_canStand_90 : decode cX5_canStand 90 = .ok (.iload_n 2, 1) := by decide +kernel
theorem dX5_canStand_91 : decode cX5_canStand 91 = .ok (.ifCond .le 7, 3) := by decide +kernel
theorem dX5_canStand_94 : decode cX5_canStand 94 = .ok (.iconst 1, 1) := by decide +kernel
theorem dX5_canStand_95 : decode cX5_canStand 95 = .ok (.goto 4, 3) := by decide +kernel
theorem dX5_canStand_98 : decode cX5_canStand 98 = .ok (.iconst 0, 1) := by decide +kernel
theorem dX5_canStand_99 : decode cX5_canStand 99 = .ok (.ireturn, 1) := by decide +kernel
theorem dX5_canStand_100 : decode cX5_canStand 100 = .ok (.iconst 0, 1) := by decide +kernel
theorem dX5_canStand_101 : decode cX5_canStand 101 = .ok (.ireturn, 1) := by decide +kernel
set_option maxRecDepth 20000 in
theorem ggX5_readsNumbers_X5_numbersOf : GoodIn wsX5_readsNumbers wsX5_numbersOf := goodIn_r _ [7] (by decide +kernel) (by decide +kernel)
set_option maxRecDepth 20000 in
theorem gX5_readsNumbers_X5_numbersOf : GoodIn wsX5_readsNumbers (va_wsS RX5 58 yX5_numbersOf wsX5_numbersOf) := goodIn_app (goodIn_of _ (by decide +kernel)) ggX5_readsNumbers_X5_numbersOf
set_option maxRecDepth 20000 in
theorem ggX5_readsNumbers_X9_step : GoodIn wsX5_readsNumbers wsX9_step := goodIn_r _ [12, 13, 14, 15, 16, 17, 18, 19, 20, 11, 21, 22, 23, 24, 25, 26, 27, 28, 29, 30, 31, 32, 33, 34, 35, 36, 37, 38, 39, 40, 41, 42, 43, 44, 45, 46, 47, 48, 49, 50, 51, 52, 53, 54, 55, 56, 57, 58, 59, 60, 61, 62, 63, 64, 65, 66, 67, 68, 69, 70, 71, 72, 73, 74, 75, 76, 77, 78, 79, 80, 81, 82, 83, 84, 85, 86, 87, 88, 154, 155, 156, 157, 158, 159] (by decide +kernel) (by decide +kernel)
set_option maxRecDepth 20000 in
theorem gX5_readsNumbers_X9_step : GoodIn wsX5_readsNumbers (wsV RX5 30 RX9 yX9_step wsX9_step) := goodIn_app (goodIn_of _ (by decide +kernel)) ggX5_readsNumbers_X9_step
set_option maxRecDepth 20000 in
theorem ggX5_readsNumbers_X5_fits : GoodIn wsX5_readsNumbers wsX5_fits := goodIn_r _ [92, 93, 94, 95, 96, 6, 97, 3, 98, 99, 100, 101, 102, 103, 104, 105, 106, 107, 108, 109, 110, 111, 112, 113, 114, 115, 116, 117, 118, 119, 120, 121, 122, 123, 124, 125, 126, 127, 128, 129, 130, 131, 132, 133, 134, 135, 136, 137, 138, 139, 140, 141, 142, 143, 144, 145, 146, 147, 148, 149, 150, 151, 152, 153, 160, 161, 162, 163, 164, 165, 166, 167, 168, 169, 170, 171, 172, 173, 174, 175, 176] (by decide +kernel) (by decide +kernel)
set_option maxRecDepth 20000 in
theorem gX5_readsNumbers_X5_fits : GoodIn wsX5_readsNumbers (wsV RX5 62 RX5 yX5_fits wsX5_fits) := goodIn_app (goodIn_of _ (by decide +kernel)) ggX5_readsNumbers_X5_fits
theorem dX5_readsNumbers_0 : decode cX5_readsNumbers 0 = .ok (.iconst 0, 1) := by decide +kernel
theorem dX5_readsNumbers_1 : decode cX5_readsNumbers 1 = .ok (.istore_n 3, 1) := by decide +kernel
theorem dX5_readsNumbers_2 : decode cX5_readsNumbers 2 = .ok (.iload_n 3, 1) := by decide +kernel
theorem dX5_readsNumbers_3 : decode cX5_readsNumbers 3 = .ok (.iload_n 2, 1) := by decide +kernel
theorem dX5_readsNumbers_4 : decode cX5_readsNumbers 4 = .ok (.invokestatic 58, 3) := by decide +kernel
theorem dX5_readsNumbers_7 : decode cX5_readsNumbers 7 = .ok (.if_icmp .ge 46, 3) := by decide +kernel
theorem dX5_readsNumbers_10 : decode cX5_readsNumbers 10 = .ok (.aload_n 1, 1) := by decide +kernel
theorem dX5_readsNumbers_11 : decode cX5_readsNumbers 11 = .ok (.invokevirtual 30, 3) := by decide +kernel
theorem dX5_readsNumbers_14 : decode cX5_readsNumbers 14 = .ok (.aload_n 1, 1) := by decide +kernel
theorem dX5_readsNumbers_15 : decode cX5_readsNumbers 15 = .ok (.getfield 33, 3) := by decide +kernel
theorem dX5_readsNumbers_18 : decode cX5_readsNumbers 18 = .ok (.iconst 2, 1) := by decide +kernel
theorem dX5_readsNumbers_19 : decode cX5_readsNumbers 19 = .ok (.if_icmp .ne 16, 3) := by decide +kernel
theorem dX5_readsNumbers_22 : decode cX5_readsNumbers 22 = .ok (.aload_n 0, 1) := by decide +kernel
theorem dX5_readsNumbers_23 : decode cX5_readsNumbers 23 = .ok (.iload_n 2, 1) := by decide +kernel
theorem dX5_readsNumbers_24 : decode cX5_readsNumbers 24 = .ok (.iload_n 3, 1) := by decide +kernel
theorem dX5_readsNumbers_25 : decode cX5_readsNumbers 25 = .ok (.aload_n 1, 1) := by decide +kernel
theorem dX5_readsNumbers_26 : decode cX5_readsNumbers 26 = .ok (.getfield 37, 3) := by decide +kernel
theorem dX5_readsNumbers_29 : decode cX5_readsNumbers 29 = .ok (.invokevirtual 62, 3) := by decide +kernel
theorem dX5_readsNumbers_32 : decode cX5_readsNumbers 32 = .ok (.ifCond .ne 5, 3) := by decide +kernel
theorem dX5_readsNumbers_35 : decode cX5_readsNumbers 35 = .ok (.iconst 0, 1) := by decide +kernel
theorem dX5_readsNumbers_36 : decode cX5_readsNumbers 36 = .ok (.ireturn, 1) := by decide +kernel
theorem dX5_readsNumbers_37 : decode cX5_readsNumbers 37 = .ok (.aload_n 0, 1) := by decide +kernel
theorem dX5_readsNumbers_38 : decode cX5_readsNumbers 38 = .ok (.getfield 18, 3) := by decide +kernel
theorem dX5_readsNumbers_41 : decode cX5_readsNumbers 41 = .ok (.iload_n 3, 1) := by decide +kernel
theorem dX5_readsNumbers_42 : decode cX5_readsNumbers 42 = .ok (.aload_n 1, 1) := by decide +kernel
theorem dX5_readsNumbers_43 : decode cX5_readsNumbers 43 = .ok (.getfield 37, 3) := by decide +kernel
theorem dX5_readsNumbers_46 : decode cX5_readsNumbers 46 = .ok (.iastore, 1) := by decide +kernel
theorem dX5_readsNumbers_47 : decode cX5_readsNumbers 47 = .ok (.iinc 3 1, 3) := by decide +kernel
theorem dX5_readsNumbers_50 : decode cX5_readsNumbers 50 = .ok (.goto (-48), 3) := by decide +kernel
theorem dX5_readsNumbers_53 : decode cX5_readsNumbers 53 = .ok (.iconst 1, 1) := by decide +kernel
theorem dX5_readsNumbers_54 : decode cX5_readsNumbers 54 = .ok (.ireturn, 1) := by decide +kernel
theorem dX5_numbersOf_0 : decode cX5_numbersOf 0 = .ok (.iload_n 0, 1) := by decide +kernel
theorem dX5_numbersOf_1 : decode cX5_numbersOf 1 = .ok (.lookupswitch 31 #[(0, 27), (2, 29)], 27) := by decide +kernel
theorem dX5_numbersOf_28 : decode cX5_numbersOf 28 = .ok (.iconst 0, 1) := by decide +kernel
theorem dX5_numbersOf_29 : decode cX5_numbersOf 29 = .ok (.ireturn, 1) := by decide +kernel
theorem dX5_numbersOf_30 : decode cX5_numbersOf 30 = .ok (.iconst 4, 1) := by decide +kernel
theorem dX5_numbersOf_31 : decode cX5_numbersOf 31 = .ok (.ireturn, 1) := by decide +kernel
theorem dX5_numbersOf_32 : decode cX5_numbersOf 32 = .ok (.iconst 1, 1) := by decide +kernel
theorem dX5_numbersOf_33 : decode cX5_numbersOf 33 = .ok (.ireturn, 1) := by decide +kernel
set_option maxRecDepth 20000 in
theorem ggX5_fits_X5_fitsWrong : GoodIn wsX5_fits wsX5_fitsWrong := goodIn_r _ [6, 1, 7, 8, 9, 10, 11, 12, 13, 14, 15, 16, 64, 65, 66, 67, 68, 69, 70, 71, 72, 73, 74, 75, 76, 77, 78, 79, 80] (by decide +kernel) (by decide +kernel)
set_option maxRecDepth 20000 in
theorem gX5_fits_X5_fitsWrong : GoodIn wsX5_fits (wsV RX5 66 RX5 yX5_fitsWrong wsX5_fitsWrong) := goodIn_app (goodIn_of _ (by decide +kernel)) ggX5_fits_X5_fitsWrong
set_option maxRecDepth 20000 in
theorem ggX5_fits_X10_hasWrong : GoodIn wsX5_fits wsX10_hasWrong := goodIn_r _ [20, 21, 14, 15, 16, 66, 67, 68, 69, 70, 71, 72, 73, 74, 75, 76, 77, 78, 79, 80] (by decide +kernel) (by decide +kernel)
set_option maxRecDepth 20000 in
theorem gX5_fits_X10_hasWrong : GoodIn wsX5_fits (wsV RX5 69 RX10 yX10_hasWrong wsX10_hasWrong) := goodIn_app (goodIn_of _ (by decide +kernel)) ggX5_fits_X10_hasWrong
set_option maxRecDepth 20000 in
theorem ggX5_fits_X10_could : GoodIn wsX5_fits wsX10_could := goodIn_r _ [25, 26, 27, 28, 15, 29, 30, 31, 32, 11, 33, 34, 35, 36, 37, 38, 39, 40, 41, 42, 43, 44, 45, 46, 47, 48, 49, 50, 51, 52, 53, 54, 55, 56, 57, 21, 58, 59, 60, 61, 62, 63, 66, 67, 68, 69, 70, 71, 72, 73, 74, 75, 76, 77, 78, 79, 80] (by decide +kernel) (by decide +kernel)
set_option maxRecDepth 20000 in
theorem gX5_fits_X10_could : GoodIn wsX5_fits (wsV RX5 73 RX10 yX10_could wsX10_could) := goodIn_app (goodIn_of _ (by decide +kernel)) ggX5_fits_X10_could
set_option maxRecDepth 20000 in
theorem ggX5_fits_X11_within : GoodIn wsX5_fits wsX11_within := goodIn_r _ [16] (by decide +kernel) (by decide +kernel)
set_option maxRecDepth 20000 in
theorem gX5_fits_X11_within_n77 : GoodIn wsX5_fits (wsX11_within) := ggX5_fits_X11_within
theorem dX5_fits_0 : decode cX5_fits 0 = .ok (.iload_n 1, 1) := by decide +kernel
theorem dX5_fits_1 : decode cX5_fits 1 = .ok (.tableswitch 77 1 3 #[27, 39, 46], 27) := by decide +kernel
theorem dX5_fits_28 : decode cX5_fits 28 = .ok (.iload_n 3, 1) := by decide +kernel
theorem dX5_fits_29 : decode cX5_fits 29 = .ok (.bipush 6, 2) := by decide +kernel
theorem dX5_fits_31 : decode cX5_fits 31 = .ok (.if_icmp .ge 7, 3) := by decide +kernel
theorem dX5_fits_34 : decode cX5_fits 34 = .ok (.iconst 1, 1) := by decide +kernel
theorem dX5_fits_35 : decode cX5_fits 35 = .ok (.goto 4, 3) := by decide +kernel
theorem dX5_fits_38 : decode cX5_fits 38 = .ok (.iconst 0, 1) := by decide +kernel
theorem dX5_fits_39 : decode cX5_fits 39 = .ok (.ireturn, 1) := by decide +kernel
theorem dX5_fits_40 : decode cX5_fits 40 = .ok (.aload_n 0, 1) := by decide +kernel
theorem dX5_fits_41 : decode cX5_fits 41 = .ok (.iload_n 2, 1) := by decide +kernel
theorem dX5_fits_42 : decode cX5_fits 42 = .ok (.iload_n 3, 1) := by decide +kernel
theorem dX5_fits_43 : decode cX5_fits 43 = .ok (.invokevirtual 66, 3) := by decide +kernel
theorem dX5_fits_46 : decode cX5_fits 46 = .ok (.ireturn, 1) := by decide +kernel
theorem dX5_fits_47 : decode cX5_fits 47 = .ok (.aload_n 0, 1) := by decide +kernel
theorem dX5_fits_48 : decode cX5_fits 48 = .ok (.getfield 12, 3) := by decide +kernel
theorem dX5_fits_51 : decode cX5_fits 51 = .ok (.iload_n 3, 1) := by decide +kernel
theorem dX5_fits_52 : decode cX5_fits 52 = .ok (.invokevirtual 69, 3) := by decide +kernel
theorem dX5_fits_55 : decode cX5_fits 55 = .ok (.ifCond .eq 21, 3) := by decide +kernel
theorem dX5_fits_58 : decode cX5_fits 58 = .ok (.aload_n 0, 1) := by decide +kernel
theorem dX5_fits_59 : decode cX5_fits 59 = .ok (.getfield 12, 3) := by decide +kernel
theorem dX5_fits_62 : decode cX5_fits 62 = .ok (.iload_n 3, 1) := by decide +kernel
theorem dX5_fits_63 : decode cX5_fits 63 = .ok (.iconst 0, 1) := by decide +kernel
theorem dX5_fits_64 : decode cX5_fits 64 = .ok (.iconst 0, 1) := by decide +kernel
theorem dX5_fits_65 : decode cX5_fits 65 = .ok (.iconst 0, 1) := by decide +kernel
theorem dX5_fits_66 : decode cX5_fits 66 = .ok (.invokevirtual 73, 3) := by decide +kernel
theorem dX5_fits_69 : decode cX5_fits 69 = .ok (.ifCond .eq 7, 3) := by decide +kernel
theorem dX5_fits_72 : decode cX5_fits 72 = .ok (.iconst 1, 1) := by decide +kernel
theorem dX5_fits_73 : decode cX5_fits 73 = .ok (.goto 4, 3) := by decide +kernel
theorem dX5_fits_76 : decode cX5_fits 76 = .ok (.iconst 0, 1) := by decide +kernel
theorem dX5_fits_77 : decode cX5_fits 77 = .ok (.ireturn, 1) := by decide +kernel
theorem dX5_fits_78 : decode cX5_fits 78 = .ok (.iload_n 3, 1) := by decide +kernel
theorem dX5_fits_79 : decode cX5_fits 79 = .ok (.iconst 1, 1) := by decide +kernel
theorem dX5_fits_80 : decode cX5_fits 80 = .ok (.bipush 99, 2) := by decide +kernel
theorem dX5_fits_82 : decode cX5_fits 82 = .ok (.invokestatic 77, 3) := by decide +kernel
theorem dX5_fits_85 : decode cX5_fits 85 = .ok (.ireturn, 1) := by decide +kernel
set_option maxRecDepth 20000 in
theorem ggX5_fitsWrong_X10_hasPerson : GoodIn wsX5_fitsWrong wsX10_hasPerson := goodIn_r _ [7, 8, 9, 10, 11, 14, 15, 16, 17, 18, 19, 20, 21, 22, 23, 24, 25, 26, 27, 28] (by decide +kernel) (by decide +kernel)
set_option maxRecDepth 20000 in
theorem gX5_fitsWrong_X10_hasPerson : GoodIn wsX5_fitsWrong (wsV RX5 80 RX10 yX10_hasPerson wsX10_hasPerson) := goodIn_app (goodIn_of _ (by decide +kernel)) ggX5_fitsWrong_X10_hasPerson
set_option maxRecDepth 20000 in
theorem ggX5_fitsWrong_X11_within : GoodIn wsX5_fitsWrong wsX11_within := goodIn_r _ [11] (by decide +kernel) (by decide +kernel)
set_option maxRecDepth 20000 in
theorem gX5_fitsWrong_X11_within_n77 : GoodIn wsX5_fitsWrong (wsX11_within) := ggX5_fitsWrong_X11_within
theorem dX5_fitsWrong_0 : decode cX5_fitsWrong 0 = .ok (.iload_n 1, 1) := by decide +kernel
theorem dX5_fitsWrong_1 : decode cX5_fitsWrong 1 = .ok (.tableswitch 75 0 2 #[27, 39, 48], 27) := by decide +kernel
theorem dX5_fitsWrong_28 : decode cX5_fitsWrong 28 = .ok (.iload_n 2, 1) := by decide +kernel
theorem dX5_fitsWrong_29 : decode cX5_fitsWrong 29 = .ok (.bipush 6, 2) := by decide +kernel
theorem dX5_fitsWrong_31 : decode cX5_fitsWrong 31 = .ok (.if_icmp .ge 7, 3) := by decide +kernel
theorem dX5_fitsWrong_34 : decode cX5_fitsWrong 34 = .ok (.iconst 1, 1) := by decide +kernel
theorem dX5_fitsWrong_35 : decode cX5_fitsWrong 35 = .ok (.goto 4, 3) := by decide +kernel
theorem dX5_fitsWrong_38 : decode cX5_fitsWrong 38 = .ok (.iconst 0, 1) := by decide +kernel
theorem dX5_fitsWrong_39 : decode cX5_fitsWrong 39 = .ok (.ireturn, 1) := by decide +kernel
theorem dX5_fitsWrong_40 : decode cX5_fitsWrong 40 = .ok (.aload_n 0, 1) := by decide +kernel
theorem dX5_fitsWrong_41 : decode cX5_fitsWrong 41 = .ok (.getfield 12, 3) := by decide +kernel
theorem dX5_fitsWrong_44 : decode cX5_fitsWrong 44 = .ok (.iload_n 2, 1) := by decide +kernel
theorem dX5_fitsWrong_45 : decode cX5_fitsWrong 45 = .ok (.invokevirtual 80, 3) := by decide +kernel
theorem dX5_fitsWrong_48 : decode cX5_fitsWrong 48 = .ok (.ireturn, 1) := by decide +kernel
theorem dX5_fitsWrong_49 : decode cX5_fitsWrong 49 = .ok (.aload_n 0, 1) := by decide +kernel
theorem dX5_fitsWrong_50 : decode cX5_fitsWrong 50 = .ok (.getfield 12, 3) := by decide +kernel
theorem dX5_fitsWrong_53 : decode cX5_fitsWrong 53 = .ok (.iload_n 2, 1) := by decide +kernel
theorem dX5_fitsWrong_54 : decode cX5_fitsWrong 54 = .ok (.invokevirtual 80, 3) := by decide +kernel
theorem dX5_fitsWrong_57 : decode cX5_fitsWrong 57 = .ok (.ifCond .eq 17, 3) := by decide +kernel
theorem dX5_fitsWrong_60 : decode cX5_fitsWrong 60 = .ok (.iload_n 2, 1) := by decide +kernel
theorem dX5_fitsWrong_61 : decode cX5_fitsWrong 61 = .ok (.aload_n 0, 1) := by decide +kernel
theorem dX5_fitsWrong_62 : decode cX5_fitsWrong 62 = .ok (.getfield 18, 3) := by decide +kernel
theorem dX5_fitsWrong_65 : decode cX5_fitsWrong 65 = .ok (.iconst 1, 1) := by decide +kernel
theorem dX5_fitsWrong_66 : decode cX5_fitsWrong 66 = .ok (.iaload, 1) := by decide +kernel
theorem dX5_fitsWrong_67 : decode cX5_fitsWrong 67 = .ok (.if_icmp .eq 7, 3) := by decide +kernel
theorem dX5_fitsWrong_70 : decode cX5_fitsWrong 70 = .ok (.iconst 1, 1) := by decide +kernel
theorem dX5_fitsWrong_71 : decode cX5_fitsWrong 71 = .ok (.goto 4, 3) := by decide +kernel
theorem dX5_fitsWrong_74 : decode cX5_fitsWrong 74 = .ok (.iconst 0, 1) := by decide +kernel
theorem dX5_fitsWrong_75 : decode cX5_fitsWrong 75 = .ok (.ireturn, 1) := by decide +kernel
theorem dX5_fitsWrong_76 : decode cX5_fitsWrong 76 = .ok (.iload_n 2, 1) := by decide +kernel
theorem dX5_fitsWrong_77 : decode cX5_fitsWrong 77 = .ok (.iconst 1, 1) := by decide +kernel
theorem dX5_fitsWrong_78 : decode cX5_fitsWrong 78 = .ok (.bipush 9, 2) := by decide +kernel
theorem dX5_fitsWrong_80 : decode cX5_fitsWrong 80 = .ok (.invokestatic 77, 3) := by decide +kernel
theorem dX5_fitsWrong_83 : decode cX5_fitsWrong 83 = .ok (.ireturn, 1) := by decide +kernel
set_option maxRecDepth 20000 in
theorem ggX5_carryOut_X10_addPerson : GoodIn wsX5_carryOut wsX10_addPerson := goodIn_r _ [7, 8, 9, 10, 44, 45, 46, 47, 48, 49, 50, 51, 52, 53, 54, 55, 56, 57, 58] (by decide +kernel) (by decide +kernel)
set_option maxRecDepth 20000 in
theorem gX5_carryOut_X10_addPerson : GoodIn wsX5_carryOut (wsV RX5 83 RX10 yX10_addPerson wsX10_addPerson) := goodIn_app (goodIn_of _ (by decide +kernel)) ggX5_carryOut_X10_addPerson
set_option maxRecDepth 20000 in
theorem ggX5_carryOut_X10_addWrong : GoodIn wsX5_carryOut wsX10_addWrong := goodIn_r _ [14, 15, 16, 17, 18, 19, 20, 44, 45, 46, 47, 48, 49, 50, 51, 52, 53, 54, 55, 56, 57, 58] (by decide +kernel) (by decide +kernel)
set_option maxRecDepth 20000 in
theorem gX5_carryOut_X10_addWrong : GoodIn wsX5_carryOut (wsV RX5 86 RX10 yX10_addWrong wsX10_addWrong) := goodIn_app (goodIn_of _ (by decide +kernel)) ggX5_carryOut_X10_addWrong
set_option maxRecDepth 20000 in
theorem ggX5_carryOut_X10_stroke : GoodIn wsX5_carryOut wsX10_stroke := goodIn_r _ [24, 17, 25, 10, 44, 45, 46, 47, 48, 49, 50, 51, 52, 53, 54, 55, 56, 57, 58] (by decide +kernel) (by decide +kernel)
set_option maxRecDepth 20000 in
theorem gX5_carryOut_X10_stroke : GoodIn wsX5_carryOut (wsV RX5 90 RX10 yX10_stroke wsX10_stroke) := goodIn_app (goodIn_of _ (by decide +kernel)) ggX5_carryOut_X10_stroke
set_option maxRecDepth 20000 in
theorem ggX5_carryOut_X10_pass : GoodIn wsX5_carryOut wsX10_pass := goodIn_r _ [29, 30, 31, 32, 33, 34, 16, 25, 20, 35, 36, 37, 38, 39, 40, 6, 41, 44, 45, 46, 47, 48, 49, 50, 51, 52, 53, 54, 55, 56, 57, 58] (by decide +kernel) (by decide +kernel)
set_option maxRecDepth 20000 in
theorem gX5_carryOut_X10_pass : GoodIn wsX5_carryOut (wsV RX5 93 RX10 yX10_pass wsX10_pass) := goodIn_app (goodIn_of _ (by decide +kernel)) ggX5_carryOut_X10_pass
theorem dX5_carryOut_0 : decode cX5_carryOut 0 = .ok (.iload_n 1, 1) := by decide +kernel
theorem dX5_carryOut_1 : decode cX5_carryOut 1 = .ok (.tableswitch 116 1 4 #[31, 48, 83, 100], 31) := by decide +kernel
theorem dX5_carryOut_32 : decode cX5_carryOut 32 = .ok (.aload_n 0, 1) := by decide +kernel
theorem dX5_carryOut_33 : decode cX5_carryOut 33 = .ok (.getfield 12, 3) := by decide +kernel
theorem dX5_carryOut_36 : decode cX5_carryOut 36 = .ok (.aload_n 0, 1) := by decide +kernel
theorem dX5_carryOut_37 : decode cX5_carryOut 37 = .ok (.getfield 18, 3) := by decide +kernel
theorem dX5_carryOut_40 : decode cX5_carryOut 40 = .ok (.iconst 0, 1) := by decide +kernel
theorem dX5_carryOut_41 : decode cX5_carryOut 41 = .ok (.iaload, 1) := by decide +kernel
theorem dX5_carryOut_42 : decode cX5_carryOut 42 = .ok (.invokevirtual 83, 3) := by decide +kernel
theorem dX5_carryOut_45 : decode cX5_carryOut 45 = .ok (.pop, 1) := by decide +kernel
theorem dX5_carryOut_46 : decode cX5_carryOut 46 = .ok (.goto 71, 3) := by decide +kernel
theorem dX5_carryOut_49 : decode cX5_carryOut 49 = .ok (.aload_n 0, 1) := by decide +kernel
theorem dX5_carryOut_50 : decode cX5_carryOut 50 = .ok (.getfield 12, 3) := by decide +kernel
theorem dX5_carryOut_53 : decode cX5_carryOut 53 = .ok (.aload_n 0, 1) := by decide +kernel
theorem dX5_carryOut_54 : decode cX5_carryOut 54 = .ok (.getfield 18, 3) := by decide +kernel
theorem dX5_carryOut_57 : decode cX5_carryOut 57 = .ok (.iconst 0, 1) := by decide +kernel
theorem dX5_carryOut_58 : decode cX5_carryOut 58 = .ok (.iaload, 1) := by decide +kernel
theorem dX5_carryOut_59 : decode cX5_carryOut 59 = .ok (.aload_n 0, 1) := by decide +kernel
theorem dX5_carryOut_60 : decode cX5_carryOut 60 = .ok (.getfield 18, 3) := by decide +kernel
theorem dX5_carryOut_63 : decode cX5_carryOut 63 = .ok (.iconst 1, 1) := by decide +kernel
theorem dX5_carryOut_64 : decode cX5_carryOut 64 = .ok (.iaload, 1) := by decide +kernel
theorem dX5_carryOut_65 : decode cX5_carryOut 65 = .ok (.aload_n 0, 1) := by decide +kernel
theorem dX5_carryOut_66 : decode cX5_carryOut 66 = .ok (.getfield 18, 3) := by decide +kernel
theorem dX5_carryOut_69 : decode cX5_carryOut 69 = .ok (.iconst 2, 1) := by decide +kernel
theorem dX5_carryOut_70 : decode cX5_carryOut 70 = .ok (.iaload, 1) := by decide +kernel
theorem dX5_carryOut_71 : decode cX5_carryOut 71 = .ok (.aload_n 0, 1) := by decide +kernel
theorem dX5_carryOut_72 : decode cX5_carryOut 72 = .ok (.getfield 18, 3) := by decide +kernel
theorem dX5_carryOut_75 : decode cX5_carryOut 75 = .ok (.iconst 3, 1) := by decide +kernel
theorem dX5_carryOut_76 : decode cX5_carryOut 76 = .ok (.iaload, 1) := by decide +kernel
theorem dX5_carryOut_77 : decode cX5_carryOut 77 = .ok (.invokevirtual 86, 3) := by decide +kernel
theorem dX5_carryOut_80 : decode cX5_carryOut 80 = .ok (.pop, 1) := by decide +kernel
theorem dX5_carryOut_81 : decode cX5_carryOut 81 = .ok (.goto 36, 3) := by decide +kernel
theorem dX5_carryOut_84 : decode cX5_carryOut 84 = .ok (.aload_n 0, 1) := by decide +kernel
theorem dX5_carryOut_85 : decode cX5_carryOut 85 = .ok (.getfield 12, 3) := by decide +kernel
theorem dX5_carryOut_88 : decode cX5_carryOut 88 = .ok (.aload_n 0, 1) := by decide +kernel
theorem dX5_carryOut_89 : decode cX5_carryOut 89 = .ok (.getfield 18, 3) := by decide +kernel
theorem dX5_carryOut_92 : decode cX5_carryOut 92 = .ok (.iconst 0, 1) := by decide +kernel
theorem dX5_carryOut_93 : decode cX5_carryOut 93 = .ok (.iaload, 1) := by decide +kernel
theorem dX5_carryOut_94 : decode cX5_carryOut 94 = .ok (.invokevirtual 90, 3) := by decide +kernel
theorem dX5_carryOut_97 : decode cX5_carryOut 97 = .ok (.pop, 1) := by decide +kernel
theorem dX5_carryOut_98 : decode cX5_carryOut 98 = .ok (.goto 19, 3) := by decide +kernel
theorem dX5_carryOut_101 : decode cX5_carryOut 101 = .ok (.aload_n 0, 1) := by decide +kernel
theorem dX5_carryOut_102 : decode cX5_carryOut 102 = .ok (.getfield 12, 3) := by decide +kernel
theorem dX5_carryOut_105 : decode cX5_carryOut 105 = .ok (.aload_n 0, 1) := by decide +kernel
theorem dX5_carryOut_106 : decode cX5_carryOut 106 = .ok (.getfield 18, 3) := by decide +kernel
theorem dX5_carryOut_109 : decode cX5_carryOut 109 = .ok (.iconst 0, 1) := by decide +kernel
theorem dX5_carryOut_110 : decode cX5_carryOut 110 = .ok (.iaload, 1) := by decide +kernel
theorem dX5_carryOut_111 : decode cX5_carryOut 111 = .ok (.invokevirtual 93, 3) := by decide +kernel
theorem dX5_carryOut_114 : decode cX5_carryOut 114 = .ok (.goto 3, 3) := by decide +kernel
theorem dX5_carryOut_117 : decode cX5_carryOut 117 = .ok (.return_, 1) := by decide +kernel
theorem dX6_init_0 : decode cX6_init 0 = .ok (.aload_n 0, 1) := by decide +kernel
theorem dX6_init_1 : decode cX6_init 1 = .ok (.invokespecial 3, 3) := by decide +kernel
theorem dX6_init_4 : decode cX6_init 4 = .ok (.aload_n 0, 1) := by decide +kernel
theorem dX6_init_5 : decode cX6_init 5 = .ok (.sipush 256, 3) := by decide +kernel
theorem dX6_init_8 : decode cX6_init 8 = .ok (.newarray .int, 2) := by decide +kernel
theorem dX6_init_10 : decode cX6_init 10 = .ok (.putfield 9, 3) := by decide +kernel
theorem dX6_init_13 : decode cX6_init 13 = .ok (.return_, 1) := by decide +kernel
set_option maxRecDepth 20000 in
theorem ggX6_size_X11_holds : GoodIn wsX6_size wsX11_holds := goodIn_r _ [5] (by decide +kernel) (by decide +kernel)
set_option maxRecDepth 20000 in
theorem gX6_size_X11_holds_n21 : GoodIn wsX6_size (wsX11_holds) := ggX6_size_X11_holds
set_option maxRecDepth 20000 in
theorem ggX6_size_X10_allWrongs : GoodIn wsX6_size wsX10_allWrongs := goodIn_r _ [10, 11, 59, 60, 61, 62, 63, 64, 65, 66, 67, 68, 69, 70, 71, 72, 73] (by decide +kernel) (by decide +kernel)
set_option maxRecDepth 20000 in
theorem gX6_size_X10_allWrongs : GoodIn wsX6_size (wsV RX6 25 RX10 yX10_allWrongs wsX10_allWrongs) := goodIn_app (goodIn_of _ (by decide +kernel)) ggX6_size_X10_allWrongs
set_option maxRecDepth 20000 in
theorem ggX6_size_X6_fewestFrom : GoodIn wsX6_size wsX6_fewestFrom := goodIn_r _ [16, 17, 2, 18, 19, 20, 21, 22, 23, 24, 9, 25, 26, 27, 3, 4, 5, 28, 29, 30, 31, 32, 33, 34, 35, 36, 37, 38, 39, 40, 41, 42, 43, 44, 45, 46, 47, 48, 49, 50, 51, 52, 11, 53, 54, 55, 56, 57, 58, 59, 60, 61, 62, 63, 64, 65, 66, 67, 68, 69, 70, 71, 72, 73, 74] (by decide +kernel) (by decide +kernel)
set_option maxRecDepth 20000 in
theorem gX6_size_X6_fewestFrom : GoodIn wsX6_size (wsV RX6 29 RX6 yX6_fewestFrom wsX6_fewestFrom) := goodIn_app (goodIn_of _ (by decide +kernel)) ggX6_size_X6_fewestFrom
theorem dX6_size_0 : decode cX6_size 0 = .ok (.aload_n 1, 1) := by decide +kernel
theorem dX6_size_1 : decode cX6_size 1 = .ok (.getfield 15, 3) := by decide +kernel
theorem dX6_size_4 : decode cX6_size 4 = .ok (.iload_n 2, 1) := by decide +kernel
theorem dX6_size_5 : decode cX6_size 5 = .ok (.invokestatic 21, 3) := by decide +kernel
theorem dX6_size_8 : decode cX6_size 8 = .ok (.ifCond .eq 5, 3) := by decide +kernel
theorem dX6_size_11 : decode cX6_size 11 = .ok (.iconst 0, 1) := by decide +kernel
theorem dX6_size_12 : decode cX6_size 12 = .ok (.ireturn, 1) := by decide +kernel
theorem dX6_size_13 : decode cX6_size 13 = .ok (.aload_n 1, 1) := by decide +kernel
theorem dX6_size_14 : decode cX6_size 14 = .ok (.invokevirtual 25, 3) := by decide +kernel
theorem dX6_size_17 : decode cX6_size 17 = .ok (.istore_n 3, 1) := by decide +kernel
theorem dX6_size_18 : decode cX6_size 18 = .ok (.iload_n 3, 1) := by decide +kernel
theorem dX6_size_19 : decode cX6_size 19 = .ok (.ifCond .lt 33, 3) := by decide +kernel
theorem dX6_size_22 : decode cX6_size 22 = .ok (.aload_n 0, 1) := by decide +kernel
theorem dX6_size_23 : decode cX6_size 23 = .ok (.getfield 9, 3) := by decide +kernel
theorem dX6_size_26 : decode cX6_size 26 = .ok (.iload_n 3, 1) := by decide +kernel
theorem dX6_size_27 : decode cX6_size 27 = .ok (.iload_n 3, 1) := by decide +kernel
theorem dX6_size_28 : decode cX6_size 28 = .ok (.iload_n 2, 1) := by decide +kernel
theorem dX6_size_29 : decode cX6_size 29 = .ok (.invokestatic 21, 3) := by decide +kernel
theorem dX6_size_32 : decode cX6_size 32 = .ok (.ifCond .eq 7, 3) := by decide +kernel
theorem dX6_size_35 : decode cX6_size 35 = .ok (.iconst 0, 1) := by decide +kernel
theorem dX6_size_36 : decode cX6_size 36 = .ok (.goto 9, 3) := by decide +kernel
theorem dX6_size_39 : decode cX6_size 39 = .ok (.aload_n 0, 1) := by decide +kernel
theorem dX6_size_40 : decode cX6_size 40 = .ok (.aload_n 1, 1) := by decide +kernel
theorem dX6_size_41 : decode cX6_size 41 = .ok (.iload_n 3, 1) := by decide +kernel
theorem dX6_size_42 : decode cX6_size 42 = .ok (.invokevirtual 29, 3) := by decide +kernel
theorem dX6_size_45 : decode cX6_size 45 = .ok (.iastore, 1) := by decide +kernel
theorem dX6_size_46 : decode cX6_size 46 = .ok (.iinc 3 (-1), 3) := by decide +kernel
theorem dX6_size_49 : decode cX6_size 49 = .ok (.goto (-31), 3) := by decide +kernel
theorem dX6_size_52 : decode cX6_size 52 = .ok (.aload_n 0, 1) := by decide +kernel
theorem dX6_size_53 : decode cX6_size 53 = .ok (.getfield 9, 3) := by decide +kernel
theorem dX6_size_56 : decode cX6_size 56 = .ok (.iconst 0, 1) := by decide +kernel
theorem dX6_size_57 : decode cX6_size 57 = .ok (.iaload, 1) := by decide +kernel
theorem dX6_size_58 : decode cX6_size 58 = .ok (.ireturn, 1) := by decide +kernel
set_option maxRecDepth 20000 in
theorem ggX6_fewestFrom_X10_could : GoodIn wsX6_fewestFrom wsX10_could := goodIn_r _ [11, 12, 13, 14, 15, 16, 17, 18, 19, 10, 20, 21, 22, 23, 24, 25, 26, 27, 28, 4, 5, 6, 29, 30, 31, 32, 33, 34, 35, 36, 37, 38, 39, 40, 41, 42, 43, 44, 45, 46, 47, 48, 49, 50, 51, 52, 53, 54, 55, 56, 57, 58, 59, 60, 61, 62, 63] (by decide +kernel) (by decide +kernel)
set_option maxRecDepth 20000 in
theorem gX6_fewestFrom_X10_could : GoodIn wsX6_fewestFrom (wsV RX6 36 RX10 yX10_could wsX10_could) := goodIn_app (goodIn_of _ (by decide +kernel)) ggX6_fewestFrom_X10_could
theorem dX6_fewestFrom_0 : decode cX6_fewestFrom 0 = .ok (.bipush 100, 2) := by decide +kernel
theorem dX6_fewestFrom_2 : decode cX6_fewestFrom 2 = .ok (.istore_n 3, 1) := by decide +kernel
theorem dX6_fewestFrom_3 : decode cX6_fewestFrom 3 = .ok (.iconst 0, 1) := by decide +kernel
theorem dX6_fewestFrom_4 : decode cX6_fewestFrom 4 = .ok (.istore 4, 2) := by decide +kernel
theorem dX6_fewestFrom_6 : decode cX6_fewestFrom 6 = .ok (.iload 4, 2) := by decide +kernel
theorem dX6_fewestFrom_8 : decode cX6_fewestFrom 8 = .ok (.aload_n 1, 1) := by decide +kernel
theorem dX6_fewestFrom_9 : decode cX6_fewestFrom 9 = .ok (.getfield 33, 3) := by decide +kernel
theorem dX6_fewestFrom_12 : decode cX6_fewestFrom 12 = .ok (.if_icmp .ge 39, 3) := by decide +kernel
theorem dX6_fewestFrom_15 : decode cX6_fewestFrom 15 = .ok (.aload_n 1, 1) := by decide +kernel
theorem dX6_fewestFrom_16 : decode cX6_fewestFrom 16 = .ok (.iload 4, 2) := by decide +kernel
theorem dX6_fewestFrom_18 : decode cX6_fewestFrom 18 = .ok (.iload_n 2, 1) := by decide +kernel
theorem dX6_fewestFrom_19 : decode cX6_fewestFrom 19 = .ok (.iload_n 2, 1) := by decide +kernel
theorem dX6_fewestFrom_20 : decode cX6_fewestFrom 20 = .ok (.iconst 0, 1) := by decide +kernel
theorem dX6_fewestFrom_21 : decode cX6_fewestFrom 21 = .ok (.invokevirtual 36, 3) := by decide +kernel
theorem dX6_fewestFrom_24 : decode cX6_fewestFrom 24 = .ok (.ifCond .eq 21, 3) := by decide +kernel
theorem dX6_fewestFrom_27 : decode cX6_fewestFrom 27 = .ok (.iload_n 3, 1) := by decide +kernel
theorem dX6_fewestFrom_28 : decode cX6_fewestFrom 28 = .ok (.iconst 1, 1) := by decide +kernel
theorem dX6_fewestFrom_29 : decode cX6_fewestFrom 29 = .ok (.aload_n 0, 1) := by decide +kernel
theorem dX6_fewestFrom_30 : decode cX6_fewestFrom 30 = .ok (.getfield 9, 3) := by decide +kernel
theorem dX6_fewestFrom_33 : decode cX6_fewestFrom 33 = .ok (.iload_n 2, 1) := by decide +kernel
theorem dX6_fewestFrom_34 : decode cX6_fewestFrom 34 = .ok (.iconst 1, 1) := by decide +kernel
theorem dX6_fewestFrom_35 : decode cX6_fewestFrom 35 = .ok (.iload 4, 2) := by decide +kernel
theorem dX6_fewestFrom_37 : decode cX6_fewestFrom 37 = .ok (.ishl, 1) := by decide +kernel
theorem dX6_fewestFrom_38 : decode cX6_fewestFrom 38 = .ok (.ior, 1) := by decide +kernel
theorem dX6_fewestFrom_39 : decode cX6_fewestFrom 39 = .ok (.iaload, 1) := by decide +kernel
theorem dX6_fewestFrom_40 : decode cX6_fewestFrom 40 = .ok (.iadd, 1) := by decide +kernel
theorem dX6_fewestFrom_41 : decode cX6_fewestFrom 41 = .ok (.invokestatic 40, 3) := by decide +kernel
theorem dX6_fewestFrom_44 : decode cX6_fewestFrom 44 = .ok (.istore_n 3, 1) := by decide +kernel
theorem dX6_fewestFrom_45 : decode cX6_fewestFrom 45 = .ok (.iinc 4 1, 3) := by decide +kernel
theorem dX6_fewestFrom_48 : decode cX6_fewestFrom 48 = .ok (.goto (-42), 3) := by decide +kernel
theorem dX6_fewestFrom_51 : decode cX6_fewestFrom 51 = .ok (.iload_n 3, 1) := by decide +kernel
theorem dX6_fewestFrom_52 : decode cX6_fewestFrom 52 = .ok (.ireturn, 1) := by decide +kernel
set_option maxRecDepth 20000 in
theorem ggX6_stroke_X6_firstOnTheWay : GoodIn wsX6_stroke wsX6_firstOnTheWay := goodIn_r _ [5, 6, 7, 8, 9, 10, 11, 12, 13, 14, 15, 16, 17, 18, 19, 20, 21, 22, 23, 24, 25, 26, 27, 28, 29, 30, 31, 32, 33, 34, 35, 36, 37, 38, 39, 40, 41, 42, 43, 44, 45, 46, 47, 48, 49, 50, 51, 52, 53, 54, 55, 56, 57, 58, 59, 60, 61, 62, 63, 64, 65, 66, 67, 68] (by decide +kernel) (by decide +kernel)
set_option maxRecDepth 20000 in
theorem gX6_stroke_X6_firstOnTheWay : GoodIn wsX6_stroke (wsV RX6 46 RX6 yX6_firstOnTheWay wsX6_firstOnTheWay) := goodIn_app (goodIn_of _ (by decide +kernel)) ggX6_stroke_X6_firstOnTheWay
theorem dX6_stroke_0 : decode cX6_stroke 0 = .ok (.iconst 0, 1) := by decide +kernel
theorem dX6_stroke_1 : decode cX6_stroke 1 = .ok (.istore_n 3, 1) := by decide +kernel
theorem dX6_stroke_2 : decode cX6_stroke 2 = .ok (.iconst (-1), 1) := by decide +kernel
theorem dX6_stroke_3 : decode cX6_stroke 3 = .ok (.istore 4, 2) := by decide +kernel
theorem dX6_stroke_5 : decode cX6_stroke 5 = .ok (.iconst 0, 1) := by decide +kernel
theorem dX6_stroke_6 : decode cX6_stroke 6 = .ok (.istore 5, 2) := by decide +kernel
theorem dX6_stroke_8 : decode cX6_stroke 8 = .ok (.iload 5, 2) := by decide +kernel
theorem dX6_stroke_10 : decode cX6_stroke 10 = .ok (.iload_n 2, 1) := by decide +kernel
theorem dX6_stroke_11 : decode cX6_stroke 11 = .ok (.if_icmp .gt 32, 3) := by decide +kernel
theorem dX6_stroke_14 : decode cX6_stroke 14 = .ok (.aload_n 0, 1) := by decide +kernel
theorem dX6_stroke_15 : decode cX6_stroke 15 = .ok (.aload_n 1, 1) := by decide +kernel
theorem dX6_stroke_16 : decode cX6_stroke 16 = .ok (.iload_n 3, 1) := by decide +kernel
theorem dX6_stroke_17 : decode cX6_stroke 17 = .ok (.invokevirtual 46, 3) := by decide +kernel
theorem dX6_stroke_20 : decode cX6_stroke 20 = .ok (.istore 4, 2) := by decide +kernel
theorem dX6_stroke_22 : decode cX6_stroke 22 = .ok (.iload 4, 2) := by decide +kernel
theorem dX6_stroke_24 : decode cX6_stroke 24 = .ok (.iconst (-1), 1) := by decide +kernel
theorem dX6_stroke_25 : decode cX6_stroke 25 = .ok (.if_icmp .ne 5, 3) := by decide +kernel
theorem dX6_stroke_28 : decode cX6_stroke 28 = .ok (.iconst (-1), 1) := by decide +kernel
theorem dX6_stroke_29 : decode cX6_stroke 29 = .ok (.ireturn, 1) := by decide +kernel
theorem dX6_stroke_30 : decode cX6_stroke 30 = .ok (.iload_n 3, 1) := by decide +kernel
theorem dX6_stroke_31 : decode cX6_stroke 31 = .ok (.iconst 1, 1) := by decide +kernel
theorem dX6_stroke_32 : decode cX6_stroke 32 = .ok (.iload 4, 2) := by decide +kernel
theorem dX6_stroke_34 : decode cX6_stroke 34 = .ok (.ishl, 1) := by decide +kernel
theorem dX6_stroke_35 : decode cX6_stroke 35 = .ok (.ior, 1) := by decide +kernel
theorem dX6_stroke_36 : decode cX6_stroke 36 = .ok (.istore_n 3, 1) := by decide +kernel
theorem dX6_stroke_37 : decode cX6_stroke 37 = .ok (.iinc 5 1, 3) := by decide +kernel
theorem dX6_stroke_40 : decode cX6_stroke 40 = .ok (.goto (-32), 3) := by decide +kernel
theorem dX6_stroke_43 : decode cX6_stroke 43 = .ok (.iload 4, 2) := by decide +kernel
theorem dX6_stroke_45 : decode cX6_stroke 45 = .ok (.ireturn, 1) := by decide +kernel
set_option maxRecDepth 20000 in
theorem ggX6_firstOnTheWay_X10_could : GoodIn wsX6_firstOnTheWay wsX10_could := goodIn_r _ [7, 8, 9, 10, 11, 12, 13, 14, 15, 6, 16, 17, 18, 19, 20, 21, 22, 23, 24, 25, 26, 27, 28, 29, 30, 31, 32, 33, 34, 35, 36, 37, 38, 39, 40, 41, 42, 43, 44, 45, 46, 47, 48, 49, 50, 51, 52, 53, 54, 55, 56, 57, 58, 59, 60, 61, 62] (by decide +kernel) (by decide +kernel)
set_option maxRecDepth 20000 in
theorem gX6_firstOnTheWay_X10_could : GoodIn wsX6_firstOnTheWay (wsV RX6 36 RX10 yX10_could wsX10_could) := goodIn_app (goodIn_of _ (by decide +kernel)) ggX6_firstOnTheWay_X10_could
theorem dX6_firstOnTheWay_0 : decode cX6_firstOnTheWay 0 = .ok (.iconst 0, 1) := by decide +kernel
theorem dX6_firstOnTheWay_1 : decode cX6_firstOnTheWay 1 = .ok (.istore_n 3, 1) := by decide +kernel
theorem dX6_firstOnTheWay_2 : decode cX6_firstOnTheWay 2 = .ok (.iload_n 3, 1) := by decide +kernel
theorem dX6_firstOnTheWay_3 : decode cX6_firstOnTheWay 3 = .ok (.aload_n 1, 1) := by decide +kernel
theorem dX6_firstOnTheWay_4 : decode cX6_firstOnTheWay 4 = .ok (.getfield 33, 3) := by decide +kernel
theorem dX6_firstOnTheWay_7 : decode cX6_firstOnTheWay 7 = .ok (.if_icmp .ge 43, 3) := by decide +kernel
theorem dX6_firstOnTheWay_10 : decode cX6_firstOnTheWay 10 = .ok (.aload_n 1, 1) := by decide +kernel
theorem dX6_firstOnTheWay_11 : decode cX6_firstOnTheWay 11 = .ok (.iload_n 3, 1) := by decide +kernel
theorem dX6_firstOnTheWay_12 : decode cX6_firstOnTheWay 12 = .ok (.iload_n 2, 1) := by decide +kernel
theorem dX6_firstOnTheWay_13 : decode cX6_firstOnTheWay 13 = .ok (.iload_n 2, 1) := by decide +kernel
theorem dX6_firstOnTheWay_14 : decode cX6_firstOnTheWay 14 = .ok (.iconst 0, 1) := by decide +kernel
theorem dX6_firstOnTheWay_15 : decode cX6_firstOnTheWay 15 = .ok (.invokevirtual 36, 3) := by decide +kernel
theorem dX6_firstOnTheWay_18 : decode cX6_firstOnTheWay 18 = .ok (.ifCond .eq 26, 3) := by decide +kernel
theorem dX6_firstOnTheWay_21 : decode cX6_firstOnTheWay 21 = .ok (.aload_n 0, 1) := by decide +kernel
theorem dX6_firstOnTheWay_22 : decode cX6_firstOnTheWay 22 = .ok (.getfield 9, 3) := by decide +kernel
theorem dX6_firstOnTheWay_25 : decode cX6_firstOnTheWay 25 = .ok (.iload_n 2, 1) := by decide +kernel
theorem dX6_firstOnTheWay_26 : decode cX6_firstOnTheWay 26 = .ok (.iconst 1, 1) := by decide +kernel
theorem dX6_firstOnTheWay_27 : decode cX6_firstOnTheWay 27 = .ok (.iload_n 3, 1) := by decide +kernel
theorem dX6_firstOnTheWay_28 : decode cX6_firstOnTheWay 28 = .ok (.ishl, 1) := by decide +kernel
theorem dX6_firstOnTheWay_29 : decode cX6_firstOnTheWay 29 = .ok (.ior, 1) := by decide +kernel
theorem dX6_firstOnTheWay_30 : decode cX6_firstOnTheWay 30 = .ok (.iaload, 1) := by decide +kernel
theorem dX6_firstOnTheWay_31 : decode cX6_firstOnTheWay 31 = .ok (.aload_n 0, 1) := by decide +kernel
theorem dX6_firstOnTheWay_32 : decode cX6_firstOnTheWay 32 = .ok (.getfield 9, 3) := by decide +kernel
theorem dX6_firstOnTheWay_35 : decode cX6_firstOnTheWay 35 = .ok (.iload_n 2, 1) := by decide +kernel
theorem dX6_firstOnTheWay_36 : decode cX6_firstOnTheWay 36 = .ok (.iaload, 1) := by decide +kernel
theorem dX6_firstOnTheWay_37 : decode cX6_firstOnTheWay 37 = .ok (.iconst 1, 1) := by decide +kernel
theorem dX6_firstOnTheWay_38 : decode cX6_firstOnTheWay 38 = .ok (.isub, 1) := by decide +kernel
theorem dX6_firstOnTheWay_39 : decode cX6_firstOnTheWay 39 = .ok (.if_icmp .ne 5, 3) := by decide +kernel
theorem dX6_firstOnTheWay_42 : decode cX6_firstOnTheWay 42 = .ok (.iload_n 3, 1) := by decide +kernel
theorem dX6_firstOnTheWay_43 : decode cX6_firstOnTheWay 43 = .ok (.ireturn, 1) := by decide +kernel
theorem dX6_firstOnTheWay_44 : decode cX6_firstOnTheWay 44 = .ok (.iinc 3 1, 3) := by decide +kernel
theorem dX6_firstOnTheWay_47 : decode cX6_firstOnTheWay 47 = .ok (.goto (-45), 3) := by decide +kernel
theorem dX6_firstOnTheWay_50 : decode cX6_firstOnTheWay 50 = .ok (.iconst (-1), 1) := by decide +kernel
theorem dX6_firstOnTheWay_51 : decode cX6_firstOnTheWay 51 = .ok (.ireturn, 1) := by decide +kernel
theorem dX7_init_0 : decode cX7_init 0 = .ok (.aload_n 0, 1) := by decide +kernel
theorem dX7_init_1 : decode cX7_init 1 = .ok (.invokespecial 1, 3) := by decide +kernel
theorem dX7_init_4 : decode cX7_init 4 = .ok (.aload_n 0, 1) := by decide +kernel
theorem dX7_init_5 : decode cX7_init 5 = .ok (.iload_n 1, 1) := by decide +kernel
theorem dX7_init_6 : decode cX7_init 6 = .ok (.putfield 7, 3) := by decide +kernel
theorem dX7_init_9 : decode cX7_init 9 = .ok (.aload_n 0, 1) := by decide +kernel
theorem dX7_init_10 : decode cX7_init 10 = .ok (.iload_n 1, 1) := by decide +kernel
theorem dX7_init_11 : decode cX7_init 11 = .ok (.iconst 4, 1) := by decide +kernel
theorem dX7_init_12 : decode cX7_init 12 = .ok (.imul, 1) := by decide +kernel
theorem dX7_init_13 : decode cX7_init 13 = .ok (.newarray .int, 2) := by decide +kernel
theorem dX7_init_15 : decode cX7_init 15 = .ok (.putfield 13, 3) := by decide +kernel
theorem dX7_init_18 : decode cX7_init 18 = .ok (.return_, 1) := by decide +kernel
theorem dX7_isFull_0 : decode cX7_isFull 0 = .ok (.aload_n 0, 1) := by decide +kernel
theorem dX7_isFull_1 : decode cX7_isFull 1 = .ok (.getfield 17, 3) := by decide +kernel
theorem dX7_isFull_4 : decode cX7_isFull 4 = .ok (.aload_n 0, 1) := by decide +kernel
theorem dX7_isFull_5 : decode cX7_isFull 5 = .ok (.getfield 7, 3) := by decide +kernel
theorem dX7_isFull_8 : decode cX7_isFull 8 = .ok (.if_icmp .lt 7, 3) := by decide +kernel
theorem dX7_isFull_11 : decode cX7_isFull 11 = .ok (.iconst 1, 1) := by decide +kernel
theorem dX7_isFull_12 : decode cX7_isFull 12 = .ok (.goto 4, 3) := by decide +kernel
theorem dX7_isFull_15 : decode cX7_isFull 15 = .ok (.iconst 0, 1) := by decide +kernel
theorem dX7_isFull_16 : decode cX7_isFull 16 = .ok (.ireturn, 1) := by decide +kernel
theorem dX7_add_0 : decode cX7_add 0 = .ok (.aload_n 0, 1) := by decide +kernel
theorem dX7_add_1 : decode cX7_add 1 = .ok (.getfield 17, 3) := by decide +kernel
theorem dX7_add_4 : decode cX7_add 4 = .ok (.iconst 4, 1) := by decide +kernel
theorem dX7_add_5 : decode cX7_add 5 = .ok (.imul, 1) := by decide +kernel
theorem dX7_add_6 : decode cX7_add 6 = .ok (.istore 5, 2) := by decide +kernel
theorem dX7_add_8 : decode cX7_add 8 = .ok (.aload_n 0, 1) := by decide +kernel
theorem dX7_add_9 : decode cX7_add 9 = .ok (.getfield 13, 3) := by decide +kernel
theorem dX7_add_12 : decode cX7_add 12 = .ok (.iload 5, 2) := by decide +kernel
theorem dX7_add_14 : decode cX7_add 14 = .ok (.iload_n 1, 1) := by decide +kernel
theorem dX7_add_15 : decode cX7_add 15 = .ok (.iastore, 1) := by decide +kernel
theorem dX7_add_16 : decode cX7_add 16 = .ok (.aload_n 0, 1) := by decide +kernel
theorem dX7_add_17 : decode cX7_add 17 = .ok (.getfield 13, 3) := by decide +kernel
theorem dX7_add_20 : decode cX7_add 20 = .ok (.iload 5, 2) := by decide +kernel
theorem dX7_add_22 : decode cX7_add 22 = .ok (.iconst 1, 1) := by decide +kernel
theorem dX7_add_23 : decode cX7_add 23 = .ok (.iadd, 1) := by decide +kernel
theorem dX7_add_24 : decode cX7_add 24 = .ok (.iload_n 2, 1) := by decide +kernel
theorem dX7_add_25 : decode cX7_add 25 = .ok (.iastore, 1) := by decide +kernel
theorem dX7_add_26 : decode cX7_add 26 = .ok (.aload_n 0, 1) := by decide +kernel
theorem dX7_add_27 : decode cX7_add 27 = .ok (.getfield 13, 3) := by decide +kernel
theorem dX7_add_30 : decode cX7_add 30 = .ok (.iload 5, 2) := by decide +kernel
theorem dX7_add_32 : decode cX7_add 32 = .ok (.iconst 2, 1) := by decide +kernel
theorem dX7_add_33 : decode cX7_add 33 = .ok (.iadd, 1) := by decide +kernel
theorem dX7_add_34 : decode cX7_add 34 = .ok (.iload_n 3, 1) := by decide +kernel
theorem dX7_add_35 : decode cX7_add 35 = .ok (.iastore, 1) := by decide +kernel
theorem dX7_add_36 : decode cX7_add 36 = .ok (.aload_n 0, 1) := by decide +kernel
theorem dX7_add_37 : decode cX7_add 37 = .ok (.getfield 13, 3) := by decide +kernel
theorem dX7_add_40 : decode cX7_add 40 = .ok (.iload 5, 2) := by decide +kernel
theorem dX7_add_42 : decode cX7_add 42 = .ok (.iconst 3, 1) := by decide +kernel
theorem dX7_add_43 : decode cX7_add 43 = .ok (.iadd, 1) := by decide +kernel
theorem dX7_add_44 : decode cX7_add 44 = .ok (.iload 4, 2) := by decide +kernel
theorem dX7_add_46 : decode cX7_add 46 = .ok (.iastore, 1) := by decide +kernel
theorem dX7_add_47 : decode cX7_add 47 = .ok (.aload_n 0, 1) := by decide +kernel
theorem dX7_add_48 : decode cX7_add 48 = .ok (.dup, 1) := by decide +kernel
theorem dX7_add_49 : decode cX7_add 49 = .ok (.getfield 17, 3) := by decide +kernel
theorem dX7_add_52 : decode cX7_add 52 = .ok (.iconst 1, 1) := by decide +kernel
theorem dX7_add_53 : decode cX7_add 53 = .ok (.iadd, 1) := by decide +kernel
theorem dX7_add_54 : decode cX7_add 54 = .ok (.putfield 17, 3) := by decide +kernel
theorem dX7_add_57 : decode cX7_add 57 = .ok (.aload_n 0, 1) := by decide +kernel
theorem dX7_add_58 : decode cX7_add 58 = .ok (.getfield 17, 3) := by decide +kernel
theorem dX7_add_61 : decode cX7_add 61 = .ok (.ireturn, 1) := by decide +kernel
theorem dX7_cell_0 : decode cX7_cell 0 = .ok (.aload_n 0, 1) := by decide +kernel
theorem dX7_cell_1 : decode cX7_cell 1 = .ok (.getfield 13, 3) := by decide +kernel
theorem dX7_cell_4 : decode cX7_cell 4 = .ok (.iload_n 1, 1) := by decide +kernel
theorem dX7_cell_5 : decode cX7_cell 5 = .ok (.iconst 4, 1) := by decide +kernel
theorem dX7_cell_6 : decode cX7_cell 6 = .ok (.imul, 1) := by decide +kernel
theorem dX7_cell_7 : decode cX7_cell 7 = .ok (.iload_n 2, 1) := by decide +kernel
theorem dX7_cell_8 : decode cX7_cell 8 = .ok (.iadd, 1) := by decide +kernel
theorem dX7_cell_9 : decode cX7_cell 9 = .ok (.iaload, 1) := by decide +kernel
theorem dX7_cell_10 : decode cX7_cell 10 = .ok (.ireturn, 1) := by decide +kernel
theorem dX7_drop_0 : decode cX7_drop 0 = .ok (.aload_n 0, 1) := by decide +kernel
theorem dX7_drop_1 : decode cX7_drop 1 = .ok (.getfield 17, 3) := by decide +kernel
theorem dX7_drop_4 : decode cX7_drop 4 = .ok (.istore_n 1, 1) := by decide +kernel
theorem dX7_drop_5 : decode cX7_drop 5 = .ok (.aload_n 0, 1) := by decide +kernel
theorem dX7_drop_6 : decode cX7_drop 6 = .ok (.iconst 0, 1) := by decide +kernel
theorem dX7_drop_7 : decode cX7_drop 7 = .ok (.putfield 17, 3) := by decide +kernel
theorem dX7_drop_10 : decode cX7_drop 10 = .ok (.iload_n 1, 1) := by decide +kernel
theorem dX7_drop_11 : decode cX7_drop 11 = .ok (.ireturn, 1) := by decide +kernel
theorem dX7_take_0 : decode cX7_take 0 = .ok (.aload_n 1, 1) := by decide +kernel
theorem dX7_take_1 : decode cX7_take 1 = .ok (.getfield 13, 3) := by decide +kernel
theorem dX7_take_4 : decode cX7_take 4 = .ok (.iconst 0, 1) := by decide +kernel
theorem dX7_take_5 : decode cX7_take 5 = .ok (.aload_n 0, 1) := by decide +kernel
theorem dX7_take_6 : decode cX7_take 6 = .ok (.getfield 13, 3) := by decide +kernel
theorem dX7_take_9 : decode cX7_take 9 = .ok (.iconst 0, 1) := by decide +kernel
theorem dX7_take_10 : decode cX7_take 10 = .ok (.aload_n 0, 1) := by decide +kernel
theorem dX7_take_11 : decode cX7_take 11 = .ok (.getfield 13, 3) := by decide +kernel
theorem dX7_take_14 : decode cX7_take 14 = .ok (.arraylength, 1) := by decide +kernel
theorem dX7_take_15 : decode cX7_take 15 = .ok (.invokestatic 20, 3) := by decide +kernel
theorem dX7_take_18 : decode cX7_take 18 = .ok (.aload_n 0, 1) := by decide +kernel
theorem dX7_take_19 : decode cX7_take 19 = .ok (.aload_n 1, 1) := by decide +kernel
theorem dX7_take_20 : decode cX7_take 20 = .ok (.getfield 17, 3) := by decide +kernel
theorem dX7_take_23 : decode cX7_take 23 = .ok (.putfield 17, 3) := by decide +kernel
theorem dX7_take_26 : decode cX7_take 26 = .ok (.return_, 1) := by decide +kernel
theorem dX7_digestOn_0 : decode cX7_digestOn 0 = .ok (.iconst 0, 1) := by decide +kernel
theorem dX7_digestOn_1 : decode cX7_digestOn 1 = .ok (.istore_n 3, 1) := by decide +kernel
theorem dX7_digestOn_2 : decode cX7_digestOn 2 = .ok (.iload_n 3, 1) := by decide +kernel
theorem dX7_digestOn_3 : decode cX7_digestOn 3 = .ok (.aload_n 0, 1) := by decide +kernel
theorem dX7_digestOn_4 : decode cX7_digestOn 4 = .ok (.getfield 17, 3) := by decide +kernel
theorem dX7_digestOn_7 : decode cX7_digestOn 7 = .ok (.iconst 4, 1) := by decide +kernel
theorem dX7_digestOn_8 : decode cX7_digestOn 8 = .ok (.imul, 1) := by decide +kernel
theorem dX7_digestOn_9 : decode cX7_digestOn 9 = .ok (.if_icmp .ge 23, 3) := by decide +kernel
theorem dX7_digestOn_12 : decode cX7_digestOn 12 = .ok (.ldc2_w 26, 3) := by decide +kernel
theorem dX7_digestOn_15 : decode cX7_digestOn 15 = .ok (.lload_n 1, 1) := by decide +kernel
theorem dX7_digestOn_16 : decode cX7_digestOn 16 = .ok (.lmul, 1) := by decide +kernel
theorem dX7_digestOn_17 : decode cX7_digestOn 17 = .ok (.aload_n 0, 1) := by decide +kernel
theorem dX7_digestOn_18 : decode cX7_digestOn 18 = .ok (.getfield 13, 3) := by decide +kernel
theorem dX7_digestOn_21 : decode cX7_digestOn 21 = .ok (.iload_n 3, 1) := by decide +kernel
theorem dX7_digestOn_22 : decode cX7_digestOn 22 = .ok (.iaload, 1) := by decide +kernel
theorem dX7_digestOn_23 : decode cX7_digestOn 23 = .ok (.i2l, 1) := by decide +kernel
theorem dX7_digestOn_24 : decode cX7_digestOn 24 = .ok (.ladd, 1) := by decide +kernel
theorem dX7_digestOn_25 : decode cX7_digestOn 25 = .ok (.lstore_n 1, 1) := by decide +kernel
theorem dX7_digestOn_26 : decode cX7_digestOn 26 = .ok (.iinc 3 1, 3) := by decide +kernel
theorem dX7_digestOn_29 : decode cX7_digestOn 29 = .ok (.goto (-27), 3) := by decide +kernel
theorem dX7_digestOn_32 : decode cX7_digestOn 32 = .ok (.lload_n 1, 1) := by decide +kernel
theorem dX7_digestOn_33 : decode cX7_digestOn 33 = .ok (.lreturn, 1) := by decide +kernel
set_option maxRecDepth 20000 in
theorem ggX8_possible_X10_could : GoodIn wsX8_possible wsX10_could := goodIn_r _ [6, 7, 8, 9, 10, 11, 12, 13, 14, 5, 15, 16, 17, 18, 19, 20, 21, 22, 23, 24, 25, 26, 27, 28, 29, 30, 31, 32, 33, 34, 35, 36, 37, 38, 39, 40, 41, 42, 43, 44, 45, 46, 47, 48, 49, 50, 51, 52, 53, 54, 55, 56, 57, 58, 59, 60, 61] (by decide +kernel) (by decide +kernel)
set_option maxRecDepth 20000 in
theorem gX8_possible_X10_could : GoodIn wsX8_possible (wsV RX8 15 RX10 yX10_could wsX10_could) := goodIn_app (goodIn_of _ (by decide +kernel)) ggX8_possible_X10_could
theorem dX8_possible_0 : decode cX8_possible 0 = .ok (.iconst 0, 1) := by decide +kernel
theorem dX8_possible_1 : decode cX8_possible 1 = .ok (.istore_n 1, 1) := by decide +kernel
theorem dX8_possible_2 : decode cX8_possible 2 = .ok (.iconst 0, 1) := by decide +kernel
theorem dX8_possible_3 : decode cX8_possible 3 = .ok (.istore_n 2, 1) := by decide +kernel
theorem dX8_possible_4 : decode cX8_possible 4 = .ok (.iload_n 2, 1) := by decide +kernel
theorem dX8_possible_5 : decode cX8_possible 5 = .ok (.aload_n 0, 1) := by decide +kernel
theorem dX8_possible_6 : decode cX8_possible 6 = .ok (.getfield 9, 3) := by decide +kernel
theorem dX8_possible_9 : decode cX8_possible 9 = .ok (.if_icmp .ge 26, 3) := by decide +kernel
theorem dX8_possible_12 : decode cX8_possible 12 = .ok (.aload_n 0, 1) := by decide +kernel
theorem dX8_possible_13 : decode cX8_possible 13 = .ok (.iload_n 2, 1) := by decide +kernel
theorem dX8_possible_14 : decode cX8_possible 14 = .ok (.iconst 0, 1) := by decide +kernel
theorem dX8_possible_15 : decode cX8_possible 15 = .ok (.iconst 0, 1) := by decide +kernel
theorem dX8_possible_16 : decode cX8_possible 16 = .ok (.iconst 0, 1) := by decide +kernel
theorem dX8_possible_17 : decode cX8_possible 17 = .ok (.invokevirtual 15, 3) := by decide +kernel
theorem dX8_possible_20 : decode cX8_possible 20 = .ok (.ifCond .eq 9, 3) := by decide +kernel
theorem dX8_possible_23 : decode cX8_possible 23 = .ok (.iload_n 1, 1) := by decide +kernel
theorem dX8_possible_24 : decode cX8_possible 24 = .ok (.iconst 1, 1) := by decide +kernel
theorem dX8_possible_25 : decode cX8_possible 25 = .ok (.iload_n 2, 1) := by decide +kernel
theorem dX8_possible_26 : decode cX8_possible 26 = .ok (.ishl, 1) := by decide +kernel
theorem dX8_possible_27 : decode cX8_possible 27 = .ok (.ior, 1) := by decide +kernel
theorem dX8_possible_28 : decode cX8_possible 28 = .ok (.istore_n 1, 1) := by decide +kernel
theorem dX8_possible_29 : decode cX8_possible 29 = .ok (.iinc 2 1, 3) := by decide +kernel
theorem dX8_possible_32 : decode cX8_possible 32 = .ok (.goto (-28), 3) := by decide +kernel
theorem dX8_possible_35 : decode cX8_possible 35 = .ok (.iload_n 1, 1) := by decide +kernel
theorem dX8_possible_36 : decode cX8_possible 36 = .ok (.ireturn, 1) := by decide +kernel
set_option maxRecDepth 20000 in
theorem ggX8_allWithout_X11_holds : GoodIn wsX8_allWithout wsX11_holds := goodIn_r _ [4] (by decide +kernel) (by decide +kernel)
set_option maxRecDepth 20000 in
theorem gX8_allWithout_X11_holds_n19 : GoodIn wsX8_allWithout (wsX11_holds) := ggX8_allWithout_X11_holds
set_option maxRecDepth 20000 in
theorem ggX8_allWithout_X10_could : GoodIn wsX8_allWithout wsX10_could := goodIn_r _ [9, 10, 11, 2, 3, 4, 12, 13, 14, 8, 15, 16, 17, 18, 19, 20, 21, 22, 23, 24, 25, 26, 27, 28, 29, 30, 31, 32, 33, 34, 35, 36, 37, 38, 39, 40, 41, 42, 43, 44, 45, 46, 47, 48, 49, 50, 51, 52, 53, 54, 55, 56, 57, 58, 59, 60, 61] (by decide +kernel) (by decide +kernel)
set_option maxRecDepth 20000 in
theorem gX8_allWithout_X10_could : GoodIn wsX8_allWithout (wsV RX8 15 RX10 yX10_could wsX10_could) := goodIn_app (goodIn_of _ (by decide +kernel)) ggX8_allWithout_X10_could
theorem dX8_allWithout_0 : decode cX8_allWithout 0 = .ok (.iconst 0, 1) := by decide +kernel
theorem dX8_allWithout_1 : decode cX8_allWithout 1 = .ok (.istore_n 2, 1) := by decide +kernel
theorem dX8_allWithout_2 : decode cX8_allWithout 2 = .ok (.iconst 0, 1) := by decide +kernel
theorem dX8_allWithout_3 : decode cX8_allWithout 3 = .ok (.istore_n 3, 1) := by decide +kernel
theorem dX8_allWithout_4 : decode cX8_allWithout 4 = .ok (.iload_n 3, 1) := by decide +kernel
theorem dX8_allWithout_5 : decode cX8_allWithout 5 = .ok (.aload_n 0, 1) := by decide +kernel
theorem dX8_allWithout_6 : decode cX8_allWithout 6 = .ok (.getfield 9, 3) := by decide +kernel
theorem dX8_allWithout_9 : decode cX8_allWithout 9 = .ok (.if_icmp .ge 67, 3) := by decide +kernel
theorem dX8_allWithout_12 : decode cX8_allWithout 12 = .ok (.iload_n 2, 1) := by decide +kernel
theorem dX8_allWithout_13 : decode cX8_allWithout 13 = .ok (.istore 4, 2) := by decide +kernel
theorem dX8_allWithout_15 : decode cX8_allWithout 15 = .ok (.iconst 0, 1) := by decide +kernel
theorem dX8_allWithout_16 : decode cX8_allWithout 16 = .ok (.istore 5, 2) := by decide +kernel
theorem dX8_allWithout_18 : decode cX8_allWithout 18 = .ok (.iload 5, 2) := by decide +kernel
theorem dX8_allWithout_20 : decode cX8_allWithout 20 = .ok (.aload_n 0, 1) := by decide +kernel
theorem dX8_allWithout_21 : decode cX8_allWithout 21 = .ok (.getfield 9, 3) := by decide +kernel
theorem dX8_allWithout_24 : decode cX8_allWithout 24 = .ok (.if_icmp .ge 37, 3) := by decide +kernel
theorem dX8_allWithout_27 : decode cX8_allWithout 27 = .ok (.iload_n 1, 1) := by decide +kernel
theorem dX8_allWithout_28 : decode cX8_allWithout 28 = .ok (.iload 5, 2) := by decide +kernel
theorem dX8_allWithout_30 : decode cX8_allWithout 30 = .ok (.invokestatic 19, 3) := by decide +kernel
theorem dX8_allWithout_33 : decode cX8_allWithout 33 = .ok (.ifCond .ne 22, 3) := by decide +kernel
theorem dX8_allWithout_36 : decode cX8_allWithout 36 = .ok (.aload_n 0, 1) := by decide +kernel
theorem dX8_allWithout_37 : decode cX8_allWithout 37 = .ok (.iload 5, 2) := by decide +kernel
theorem dX8_allWithout_39 : decode cX8_allWithout 39 = .ok (.iload_n 2, 1) := by decide +kernel
theorem dX8_allWithout_40 : decode cX8_allWithout 40 = .ok (.iload_n 2, 1) := by decide +kernel
theorem dX8_allWithout_41 : decode cX8_allWithout 41 = .ok (.iconst 0, 1) := by decide +kernel
theorem dX8_allWithout_42 : decode cX8_allWithout 42 = .ok (.invokevirtual 15, 3) := by decide +kernel
theorem dX8_allWithout_45 : decode cX8_allWithout 45 = .ok (.ifCond .eq 10, 3) := by decide +kernel
theorem dX8_allWithout_48 : decode cX8_allWithout 48 = .ok (.iload_n 2, 1) := by decide +kernel
theorem dX8_allWithout_49 : decode cX8_allWithout 49 = .ok (.iconst 1, 1) := by decide +kernel
theorem dX8_allWithout_50 : decode cX8_allWithout 50 = .ok (.iload 5, 2) := by decide +kernel
theorem dX8_allWithout_52 : decode cX8_allWithout 52 = .ok (.ishl, 1) := by decide +kernel
theorem dX8_allWithout_53 : decode cX8_allWithout 53 = .ok (.ior, 1) := by decide +kernel
theorem dX8_allWithout_54 : decode cX8_allWithout 54 = .ok (.istore_n 2, 1) := by decide +kernel
theorem dX8_allWithout_55 : decode cX8_allWithout 55 = .ok (.iinc 5 1, 3) := by decide +kernel
theorem dX8_allWithout_58 : decode cX8_allWithout 58 = .ok (.goto (-40), 3) := by decide +kernel
theorem dX8_allWithout_61 : decode cX8_allWithout 61 = .ok (.iload_n 2, 1) := by decide +kernel
theorem dX8_allWithout_62 : decode cX8_allWithout 62 = .ok (.iload 4, 2) := by decide +kernel
theorem dX8_allWithout_64 : decode cX8_allWithout 64 = .ok (.if_icmp .ne 6, 3) := by decide +kernel
theorem dX8_allWithout_67 : decode cX8_allWithout 67 = .ok (.goto 9, 3) := by decide +kernel
theorem dX8_allWithout_70 : decode cX8_allWithout 70 = .ok (.iinc 3 1, 3) := by decide +kernel
theorem dX8_allWithout_73 : decode cX8_allWithout 73 = .ok (.goto (-69), 3) := by decide +kernel
theorem dX8_allWithout_76 : decode cX8_allWithout 76 = .ok (.iload_n 2, 1) := by decide +kernel
theorem dX8_allWithout_77 : decode cX8_allWithout 77 = .ok (.ireturn, 1) := by decide +kernel
set_option maxRecDepth 20000 in
theorem ggX8_daysUntil_X10_could : GoodIn wsX8_daysUntil wsX10_could := goodIn_r _ [5, 6, 7, 8, 9, 10, 11, 12, 13, 4, 14, 15, 16, 17, 18, 19, 20, 21, 22, 23, 24, 25, 26, 27, 28, 29, 30, 31, 32, 33, 34, 35, 36, 37, 38, 39, 40, 41, 42, 43, 44, 45, 46, 47, 48, 49, 50, 51, 52, 53, 54, 55, 56, 57, 58, 59, 60] (by decide +kernel) (by decide +kernel)
set_option maxRecDepth 20000 in
theorem gX8_daysUntil_X10_could : GoodIn wsX8_daysUntil (wsV RX8 15 RX10 yX10_could wsX10_could) := goodIn_app (goodIn_of _ (by decide +kernel)) ggX8_daysUntil_X10_could
theorem dX8_daysUntil_0 : decode cX8_daysUntil 0 = .ok (.iconst 0, 1) := by decide +kernel
theorem dX8_daysUntil_1 : decode cX8_daysUntil 1 = .ok (.istore_n 2, 1) := by decide +kernel
theorem dX8_daysUntil_2 : decode cX8_daysUntil 2 = .ok (.iload_n 2, 1) := by decide +kernel
theorem dX8_daysUntil_3 : decode cX8_daysUntil 3 = .ok (.bipush 60, 2) := by decide +kernel
theorem dX8_daysUntil_5 : decode cX8_daysUntil 5 = .ok (.if_icmp .gt 22, 3) := by decide +kernel
theorem dX8_daysUntil_8 : decode cX8_daysUntil 8 = .ok (.aload_n 0, 1) := by decide +kernel
theorem dX8_daysUntil_9 : decode cX8_daysUntil 9 = .ok (.iload_n 1, 1) := by decide +kernel
theorem dX8_daysUntil_10 : decode cX8_daysUntil 10 = .ok (.iconst 0, 1) := by decide +kernel
theorem dX8_daysUntil_11 : decode cX8_daysUntil 11 = .ok (.iconst 0, 1) := by decide +kernel
theorem dX8_daysUntil_12 : decode cX8_daysUntil 12 = .ok (.iload_n 2, 1) := by decide +kernel
theorem dX8_daysUntil_13 : decode cX8_daysUntil 13 = .ok (.invokevirtual 15, 3) := by decide +kernel
theorem dX8_daysUntil_16 : decode cX8_daysUntil 16 = .ok (.ifCond .eq 5, 3) := by decide +kernel
theorem dX8_daysUntil_19 : decode cX8_daysUntil 19 = .ok (.iload_n 2, 1) := by decide +kernel
theorem dX8_daysUntil_20 : decode cX8_daysUntil 20 = .ok (.ireturn, 1) := by decide +kernel
theorem dX8_daysUntil_21 : decode cX8_daysUntil 21 = .ok (.iinc 2 1, 3) := by decide +kernel
theorem dX8_daysUntil_24 : decode cX8_daysUntil 24 = .ok (.goto (-22), 3) := by decide +kernel
theorem dX8_daysUntil_27 : decode cX8_daysUntil 27 = .ok (.iconst (-1), 1) := by decide +kernel
theorem dX8_daysUntil_28 : decode cX8_daysUntil 28 = .ok (.ireturn, 1) := by decide +kernel
set_option maxRecDepth 20000 in
theorem ggX8_silence_X10_could : GoodIn wsX8_silence wsX10_could := goodIn_r _ [5, 6, 7, 8, 9, 10, 11, 12, 13, 4, 14, 15, 16, 17, 18, 19, 20, 21, 22, 23, 24, 25, 26, 27, 28, 29, 30, 31, 32, 33, 34, 35, 36, 37, 38, 39, 40, 41, 42, 43, 44, 45, 58, 59, 60, 61, 62, 63, 64, 65, 66, 67, 68, 69, 70, 71, 72] (by decide +kernel) (by decide +kernel)
set_option maxRecDepth 20000 in
theorem gX8_silence_X10_could : GoodIn wsX8_silence (wsV RX8 15 RX10 yX10_could wsX10_could) := goodIn_app (goodIn_of _ (by decide +kernel)) ggX8_silence_X10_could
set_option maxRecDepth 20000 in
theorem ggX8_silence_X8_allWithout : GoodIn wsX8_silence wsX8_allWithout := goodIn_r _ [49, 50, 8, 9, 10, 1, 2, 3, 4, 5, 6, 7, 11, 12, 13, 14, 15, 16, 17, 18, 19, 20, 21, 22, 23, 24, 25, 26, 27, 28, 29, 30, 31, 32, 33, 34, 35, 36, 37, 38, 39, 40, 41, 42, 43, 44, 45, 58, 59, 60, 61, 62, 63, 64, 65, 66, 67, 68, 69, 70, 71, 72] (by decide +kernel) (by decide +kernel)
set_option maxRecDepth 20000 in
theorem gX8_silence_X8_allWithout : GoodIn wsX8_silence (va_wsS RX8 25 yX8_allWithout wsX8_allWithout) := goodIn_app (goodIn_of _ (by decide +kernel)) ggX8_silence_X8_allWithout
set_option maxRecDepth 20000 in
theorem ggX8_silence_X11_holds : GoodIn wsX8_silence wsX11_holds := goodIn_r _ [10] (by decide +kernel) (by decide +kernel)
set_option maxRecDepth 20000 in
theorem gX8_silence_X11_holds_n19 : GoodIn wsX8_silence (wsX11_holds) := ggX8_silence_X11_holds
set_option maxRecDepth 20000 in
theorem ggX8_silence_J6_bitCount_0f7a4 : GoodIn wsX8_silence wsJ6_bitCount_0f7a4 := goodIn_r _ [54, 55, 56, 57] (by decide +kernel) (by decide +kernel)
set_option maxRecDepth 20000 in
theorem gX8_silence_J6_bitCount_0f7a4 : GoodIn wsX8_silence (va_wsS RX8 29 yJ6_bitCount_0f7a4 wsJ6_bitCount_0f7a4) := goodIn_app (goodIn_of _ (by decide +kernel)) ggX8_silence_J6_bitCount_0f7a4
theorem dX8_silence_0 : decode cX8_silence 0 = .ok (.aload_n 0, 1) := by decide +kernel
theorem dX8_silence_1 : decode cX8_silence 1 = .ok (.iload_n 1, 1) := by decide +kernel
theorem dX8_silence_2 : decode cX8_silence 2 = .ok (.iconst 0, 1) := by decide +kernel
theorem dX8_silence_3 : decode cX8_silence 3 = .ok (.iconst 0, 1) := by decide +kernel
theorem dX8_silence_4 : decode cX8_silence 4 = .ok (.iconst 0, 1) := by decide +kernel
theorem dX8_silence_5 : decode cX8_silence 5 = .ok (.invokevirtual 15, 3) := by decide +kernel
theorem dX8_silence_8 : decode cX8_silence 8 = .ok (.ifCond .eq 5, 3) := by decide +kernel
theorem dX8_silence_11 : decode cX8_silence 11 = .ok (.iconst (-1), 1) := by decide +kernel
theorem dX8_silence_12 : decode cX8_silence 12 = .ok (.ireturn, 1) := by decide +kernel
theorem dX8_silence_13 : decode cX8_silence 13 = .ok (.aload_n 0, 1) := by decide +kernel
theorem dX8_silence_14 : decode cX8_silence 14 = .ok (.iconst 0, 1) := by decide +kernel
theorem dX8_silence_15 : decode cX8_silence 15 = .ok (.invokestatic 25, 3) := by decide +kernel
theorem dX8_silence_18 : decode cX8_silence 18 = .ok (.istore_n 2, 1) := by decide +kernel
theorem dX8_silence_19 : decode cX8_silence 19 = .ok (.iload_n 2, 1) := by decide +kernel
theorem dX8_silence_20 : decode cX8_silence 20 = .ok (.iload_n 1, 1) := by decide +kernel
theorem dX8_silence_21 : decode cX8_silence 21 = .ok (.invokestatic 19, 3) := by decide +kernel
theorem dX8_silence_24 : decode cX8_silence 24 = .ok (.ifCond .ne 5, 3) := by decide +kernel
theorem dX8_silence_27 : decode cX8_silence 27 = .ok (.iconst 0, 1) := by decide +kernel
theorem dX8_silence_28 : decode cX8_silence 28 = .ok (.ireturn, 1) := by decide +kernel
theorem dX8_silence_29 : decode cX8_silence 29 = .ok (.iload_n 2, 1) := by decide +kernel
theorem dX8_silence_30 : decode cX8_silence 30 = .ok (.iconst 1, 1) := by decide +kernel
theorem dX8_silence_31 : decode cX8_silence 31 = .ok (.iload_n 1, 1) := by decide +kernel
theorem dX8_silence_32 : decode cX8_silence 32 = .ok (.ishl, 1) := by decide +kernel
theorem dX8_silence_33 : decode cX8_silence 33 = .ok (.iconst (-1), 1) := by decide +kernel
theorem dX8_silence_34 : decode cX8_silence 34 = .ok (.ixor, 1) := by decide +kernel
theorem dX8_silence_35 : decode cX8_silence 35 = .ok (.iand, 1) := by decide +kernel
theorem dX8_silence_36 : decode cX8_silence 36 = .ok (.istore_n 3, 1) := by decide +kernel
theorem dX8_silence_37 : decode cX8_silence 37 = .ok (.iload_n 3, 1) := by decide +kernel
theorem dX8_silence_38 : decode cX8_silence 38 = .ok (.istore 4, 2) := by decide +kernel
theorem dX8_silence_40 : decode cX8_silence 40 = .ok (.iconst 1, 1) := by decide +kernel
theorem dX8_silence_41 : decode cX8_silence 41 = .ok (.istore 5, 2) := by decide +kernel
theorem dX8_silence_43 : decode cX8_silence 43 = .ok (.iload 5, 2) := by decide +kernel
theorem dX8_silence_45 : decode cX8_silence 45 = .ok (.iload_n 3, 1) := by decide +kernel
theorem dX8_silence_46 : decode cX8_silence 46 = .ok (.if_icmp .ge 48, 3) := by decide +kernel
theorem dX8_silence_49 : decode cX8_silence 49 = .ok (.iload 5, 2) := by decide +kernel
theorem dX8_silence_51 : decode cX8_silence 51 = .ok (.iload_n 3, 1) := by decide +kernel
theorem dX8_silence_52 : decode cX8_silence 52 = .ok (.iconst (-1), 1) := by decide +kernel
theorem dX8_silence_53 : decode cX8_silence 53 = .ok (.ixor, 1) := by decide +kernel
theorem dX8_silence_54 : decode cX8_silence 54 = .ok (.iand, 1) := by decide +kernel
theorem dX8_silence_55 : decode cX8_silence 55 = .ok (.ifCond .ne 33, 3) := by decide +kernel
theorem dX8_silence_58 : decode cX8_silence 58 = .ok (.iload 5, 2) := by decide +kernel
theorem dX8_silence_60 : decode cX8_silence 60 = .ok (.invokestatic 29, 3) := by decide +kernel
theorem dX8_silence_63 : decode cX8_silence 63 = .ok (.iload 4, 2) := by decide +kernel
theorem dX8_silence_65 : decode cX8_silence 65 = .ok (.invokestatic 29, 3) := by decide +kernel
theorem dX8_silence_68 : decode cX8_silence 68 = .ok (.if_icmp .ge 20, 3) := by decide +kernel
theorem dX8_silence_71 : decode cX8_silence 71 = .ok (.aload_n 0, 1) := by decide +kernel
theorem dX8_silence_72 : decode cX8_silence 72 = .ok (.iload 5, 2) := by decide +kernel
theorem dX8_silence_74 : decode cX8_silence 74 = .ok (.invokestatic 25, 3) := by decide +kernel
theorem dX8_silence_77 : decode cX8_silence 77 = .ok (.iload_n 1, 1) := by decide +kernel
theorem dX8_silence_78 : decode cX8_silence 78 = .ok (.invokestatic 19, 3) := by decide +kernel
theorem dX8_silence_81 : decode cX8_silence 81 = .ok (.ifCond .ne 7, 3) := by decide +kernel
theorem dX8_silence_84 : decode cX8_silence 84 = .ok (.iload 5, 2) := by decide +kernel
theorem dX8_silence_86 : decode cX8_silence 86 = .ok (.istore 4, 2) := by decide +kernel
theorem dX8_silence_88 : decode cX8_silence 88 = .ok (.iinc 5 1, 3) := by decide +kernel
theorem dX8_silence_91 : decode cX8_silence 91 = .ok (.goto (-48), 3) := by decide +kernel
theorem dX8_silence_94 : decode cX8_silence 94 = .ok (.iload 4, 2) := by decide +kernel
theorem dX8_silence_96 : decode cX8_silence 96 = .ok (.ireturn, 1) := by decide +kernel
set_option maxRecDepth 20000 in
theorem ggX8_ring_X8_wronged : GoodIn wsX8_ring wsX8_wronged := goodIn_r _ [5, 6, 7, 8, 9, 10, 11, 12, 13, 14, 15, 16, 17, 18, 19, 20, 21, 22, 23, 24, 25, 26, 27] (by decide +kernel) (by decide +kernel)
set_option maxRecDepth 20000 in
theorem gX8_ring_X8_wronged : GoodIn wsX8_ring (va_wsS RX8 38 yX8_wronged wsX8_wronged) := goodIn_app (goodIn_of _ (by decide +kernel)) ggX8_ring_X8_wronged
set_option maxRecDepth 20000 in
theorem ggX8_ring_X11_holds : GoodIn wsX8_ring wsX11_holds := goodIn_r _ [12] (by decide +kernel) (by decide +kernel)
set_option maxRecDepth 20000 in
theorem gX8_ring_X11_holds_n19 : GoodIn wsX8_ring (wsX11_holds) := ggX8_ring_X11_holds
theorem dX8_ring_0 : decode cX8_ring 0 = .ok (.iconst 1, 1) := by decide +kernel
theorem dX8_ring_1 : decode cX8_ring 1 = .ok (.iload_n 1, 1) := by decide +kernel
theorem dX8_ring_2 : decode cX8_ring 2 = .ok (.ishl, 1) := by decide +kernel
theorem dX8_ring_3 : decode cX8_ring 3 = .ok (.istore_n 2, 1) := by decide +kernel
theorem dX8_ring_4 : decode cX8_ring 4 = .ok (.iconst 1, 1) := by decide +kernel
theorem dX8_ring_5 : decode cX8_ring 5 = .ok (.istore_n 3, 1) := by decide +kernel
theorem dX8_ring_6 : decode cX8_ring 6 = .ok (.iload_n 3, 1) := by decide +kernel
theorem dX8_ring_7 : decode cX8_ring 7 = .ok (.aload_n 0, 1) := by decide +kernel
theorem dX8_ring_8 : decode cX8_ring 8 = .ok (.getfield 35, 3) := by decide +kernel
theorem dX8_ring_11 : decode cX8_ring 11 = .ok (.if_icmp .gt 25, 3) := by decide +kernel
theorem dX8_ring_14 : decode cX8_ring 14 = .ok (.aload_n 0, 1) := by decide +kernel
theorem dX8_ring_15 : decode cX8_ring 15 = .ok (.iload_n 2, 1) := by decide +kernel
theorem dX8_ring_16 : decode cX8_ring 16 = .ok (.invokestatic 38, 3) := by decide +kernel
theorem dX8_ring_19 : decode cX8_ring 19 = .ok (.istore_n 2, 1) := by decide +kernel
theorem dX8_ring_20 : decode cX8_ring 20 = .ok (.iload_n 2, 1) := by decide +kernel
theorem dX8_ring_21 : decode cX8_ring 21 = .ok (.iload_n 1, 1) := by decide +kernel
theorem dX8_ring_22 : decode cX8_ring 22 = .ok (.invokestatic 19, 3) := by decide +kernel
theorem dX8_ring_25 : decode cX8_ring 25 = .ok (.ifCond .eq 5, 3) := by decide +kernel
theorem dX8_ring_28 : decode cX8_ring 28 = .ok (.iload_n 3, 1) := by decide +kernel
theorem dX8_ring_29 : decode cX8_ring 29 = .ok (.ireturn, 1) := by decide +kernel
theorem dX8_ring_30 : decode cX8_ring 30 = .ok (.iinc 3 1, 3) := by decide +kernel
theorem dX8_ring_33 : decode cX8_ring 33 = .ok (.goto (-27), 3) := by decide +kernel
theorem dX8_ring_36 : decode cX8_ring 36 = .ok (.iconst (-1), 1) := by decide +kernel
theorem dX8_ring_37 : decode cX8_ring 37 = .ok (.ireturn, 1) := by decide +kernel
set_option maxRecDepth 20000 in
theorem ggX8_wronged_X11_holds : GoodIn wsX8_wronged wsX11_holds := goodIn_r _ [7] (by decide +kernel) (by decide +kernel)
set_option maxRecDepth 20000 in
theorem gX8_wronged_X11_holds_n19 : GoodIn wsX8_wronged (wsX11_holds) := ggX8_wronged_X11_holds
theorem dX8_wronged_0 : decode cX8_wronged 0 = .ok (.iconst 0, 1) := by decide +kernel
theorem dX8_wronged_1 : decode cX8_wronged 1 = .ok (.istore_n 2, 1) := by decide +kernel
theorem dX8_wronged_2 : decode cX8_wronged 2 = .ok (.iconst 0, 1) := by decide +kernel
theorem dX8_wronged_3 : decode cX8_wronged 3 = .ok (.istore_n 3, 1) := by decide +kernel
theorem dX8_wronged_4 : decode cX8_wronged 4 = .ok (.iload_n 3, 1) := by decide +kernel
theorem dX8_wronged_5 : decode cX8_wronged 5 = .ok (.aload_n 0, 1) := by decide +kernel
theorem dX8_wronged_6 : decode cX8_wronged 6 = .ok (.getfield 9, 3) := by decide +kernel
theorem dX8_wronged_9 : decode cX8_wronged 9 = .ok (.if_icmp .ge 44, 3) := by decide +kernel
theorem dX8_wronged_12 : decode cX8_wronged 12 = .ok (.aload_n 0, 1) := by decide +kernel
theorem dX8_wronged_13 : decode cX8_wronged 13 = .ok (.getfield 41, 3) := by decide +kernel
theorem dX8_wronged_16 : decode cX8_wronged 16 = .ok (.iload_n 3, 1) := by decide +kernel
theorem dX8_wronged_17 : decode cX8_wronged 17 = .ok (.invokestatic 19, 3) := by decide +kernel
theorem dX8_wronged_20 : decode cX8_wronged 20 = .ok (.ifCond .ne 27, 3) := by decide +kernel
theorem dX8_wronged_23 : decode cX8_wronged 23 = .ok (.iload_n 1, 1) := by decide +kernel
theorem dX8_wronged_24 : decode cX8_wronged 24 = .ok (.aload_n 0, 1) := by decide +kernel
theorem dX8_wronged_25 : decode cX8_wronged 25 = .ok (.getfield 44, 3) := by decide +kernel
theorem dX8_wronged_28 : decode cX8_wronged 28 = .ok (.iload_n 3, 1) := by decide +kernel
theorem dX8_wronged_29 : decode cX8_wronged 29 = .ok (.iaload, 1) := by decide +kernel
theorem dX8_wronged_30 : decode cX8_wronged 30 = .ok (.invokestatic 19, 3) := by decide +kernel
theorem dX8_wronged_33 : decode cX8_wronged 33 = .ok (.ifCond .eq 14, 3) := by decide +kernel
theorem dX8_wronged_36 : decode cX8_wronged 36 = .ok (.iload_n 2, 1) := by decide +kernel
theorem dX8_wronged_37 : decode cX8_wronged 37 = .ok (.iconst 1, 1) := by decide +kernel
theorem dX8_wronged_38 : decode cX8_wronged 38 = .ok (.aload_n 0, 1) := by decide +kernel
theorem dX8_wronged_39 : decode cX8_wronged 39 = .ok (.getfield 48, 3) := by decide +kernel
theorem dX8_wronged_42 : decode cX8_wronged 42 = .ok (.iload_n 3, 1) := by decide +kernel
theorem dX8_wronged_43 : decode cX8_wronged 43 = .ok (.iaload, 1) := by decide +kernel
theorem dX8_wronged_44 : decode cX8_wronged 44 = .ok (.ishl, 1) := by decide +kernel
theorem dX8_wronged_45 : decode cX8_wronged 45 = .ok (.ior, 1) := by decide +kernel
theorem dX8_wronged_46 : decode cX8_wronged 46 = .ok (.istore_n 2, 1) := by decide +kernel
theorem dX8_wronged_47 : decode cX8_wronged 47 = .ok (.iinc 3 1, 3) := by decide +kernel
theorem dX8_wronged_50 : decode cX8_wronged 50 = .ok (.goto (-46), 3) := by decide +kernel
theorem dX8_wronged_53 : decode cX8_wronged 53 = .ok (.iload_n 2, 1) := by decide +kernel
theorem dX8_wronged_54 : decode cX8_wronged 54 = .ok (.ireturn, 1) := by decide +kernel
set_option maxRecDepth 20000 in
theorem ggX8_letOffBySeed_X10_hasWrong : GoodIn wsX8_letOffBySeed wsX10_hasWrong := goodIn_r _ [11, 12, 13, 14, 15, 65, 66, 67, 68, 69, 70, 71, 72, 73, 74, 75, 76, 77, 78, 79] (by decide +kernel) (by decide +kernel)
set_option maxRecDepth 20000 in
theorem gX8_letOffBySeed_X10_hasWrong : GoodIn wsX8_letOffBySeed (wsV RX8 61 RX10 yX10_hasWrong wsX10_hasWrong) := goodIn_app (goodIn_of _ (by decide +kernel)) ggX8_letOffBySeed_X10_hasWrong
set_option maxRecDepth 20000 in
theorem ggX8_letOffBySeed_X10_could : GoodIn wsX8_letOffBySeed wsX10_could := goodIn_r _ [19, 20, 21, 22, 14, 23, 24, 25, 26, 10, 27, 28, 29, 30, 31, 32, 33, 34, 35, 36, 37, 38, 39, 40, 41, 42, 43, 44, 45, 46, 47, 48, 49, 50, 51, 12, 52, 53, 54, 55, 56, 57, 65, 66, 67, 68, 69, 70, 71, 72, 73, 74, 75, 76, 77, 78, 79] (by decide +kernel) (by decide +kernel)
set_option maxRecDepth 20000 in
theorem gX8_letOffBySeed_X10_could : GoodIn wsX8_letOffBySeed (wsV RX8 15 RX10 yX10_could wsX10_could) := goodIn_app (goodIn_of _ (by decide +kernel)) ggX8_letOffBySeed_X10_could
set_option maxRecDepth 20000 in
theorem ggX8_letOffBySeed_J6_bitCount_0f7a4 : GoodIn wsX8_letOffBySeed wsJ6_bitCount_0f7a4 := goodIn_r _ [61, 62, 63, 64] (by decide +kernel) (by decide +kernel)
set_option maxRecDepth 20000 in
theorem gX8_letOffBySeed_J6_bitCount_0f7a4 : GoodIn wsX8_letOffBySeed (va_wsS RX8 29 yJ6_bitCount_0f7a4 wsJ6_bitCount_0f7a4) := goodIn_app (goodIn_of _ (by decide +kernel)) ggX8_letOffBySeed_J6_bitCount_0f7a4
theorem dX8_letOffBySeed_0 : decode cX8_letOffBySeed 0 = .ok (.iload_n 1, 1) := by decide +kernel
theorem dX8_letOffBySeed_1 : decode cX8_letOffBySeed 1 = .ok (.i2l, 1) := by decide +kernel
theorem dX8_letOffBySeed_2 : decode cX8_letOffBySeed 2 = .ok (.lstore_n 3, 1) := by decide +kernel
theorem dX8_letOffBySeed_3 : decode cX8_letOffBySeed 3 = .ok (.iconst 0, 1) := by decide +kernel
theorem dX8_letOffBySeed_4 : decode cX8_letOffBySeed 4 = .ok (.istore 5, 2) := by decide +kernel
theorem dX8_letOffBySeed_6 : decode cX8_letOffBySeed 6 = .ok (.iconst 0, 1) := by decide +kernel
theorem dX8_letOffBySeed_7 : decode cX8_letOffBySeed 7 = .ok (.istore 6, 2) := by decide +kernel
theorem dX8_letOffBySeed_9 : decode cX8_letOffBySeed 9 = .ok (.iload 6, 2) := by decide +kernel
theorem dX8_letOffBySeed_11 : decode cX8_letOffBySeed 11 = .ok (.iload_n 2, 1) := by decide +kernel
theorem dX8_letOffBySeed_12 : decode cX8_letOffBySeed 12 = .ok (.if_icmp .ge 68, 3) := by decide +kernel
theorem dX8_letOffBySeed_15 : decode cX8_letOffBySeed 15 = .ok (.lload_n 3, 1) := by decide +kernel
theorem dX8_letOffBySeed_16 : decode cX8_letOffBySeed 16 = .ok (.ldc2_w 51, 3) := by decide +kernel
theorem dX8_letOffBySeed_19 : decode cX8_letOffBySeed 19 = .ok (.lmul, 1) := by decide +kernel
theorem dX8_letOffBySeed_20 : decode cX8_letOffBySeed 20 = .ok (.ldc2_w 53, 3) := by decide +kernel
theorem dX8_letOffBySeed_23 : decode cX8_letOffBySeed 23 = .ok (.ladd, 1) := by decide +kernel
theorem dX8_letOffBySeed_24 : decode cX8_letOffBySeed 24 = .ok (.ldc2_w 55, 3) := by decide +kernel
theorem dX8_letOffBySeed_27 : decode cX8_letOffBySeed 27 = .ok (.lrem, 1) := by decide +kernel
theorem dX8_letOffBySeed_28 : decode cX8_letOffBySeed 28 = .ok (.lstore_n 3, 1) := by decide +kernel
theorem dX8_letOffBySeed_29 : decode cX8_letOffBySeed 29 = .ok (.lload_n 3, 1) := by decide +kernel
theorem dX8_letOffBySeed_30 : decode cX8_letOffBySeed 30 = .ok (.ldc2_w 57, 3) := by decide +kernel
theorem dX8_letOffBySeed_33 : decode cX8_letOffBySeed 33 = .ok (.ldiv, 1) := by decide +kernel
theorem dX8_letOffBySeed_34 : decode cX8_letOffBySeed 34 = .ok (.ldc2_w 59, 3) := by decide +kernel
theorem dX8_letOffBySeed_37 : decode cX8_letOffBySeed 37 = .ok (.lrem, 1) := by decide +kernel
theorem dX8_letOffBySeed_38 : decode cX8_letOffBySeed 38 = .ok (.l2i, 1) := by decide +kernel
theorem dX8_letOffBySeed_39 : decode cX8_letOffBySeed 39 = .ok (.istore 7, 2) := by decide +kernel
theorem dX8_letOffBySeed_41 : decode cX8_letOffBySeed 41 = .ok (.aload_n 0, 1) := by decide +kernel
theorem dX8_letOffBySeed_42 : decode cX8_letOffBySeed 42 = .ok (.iload 7, 2) := by decide +kernel
theorem dX8_letOffBySeed_44 : decode cX8_letOffBySeed 44 = .ok (.invokevirtual 61, 3) := by decide +kernel
theorem dX8_letOffBySeed_47 : decode cX8_letOffBySeed 47 = .ok (.ifCond .eq 27, 3) := by decide +kernel
theorem dX8_letOffBySeed_50 : decode cX8_letOffBySeed 50 = .ok (.aload_n 0, 1) := by decide +kernel
theorem dX8_letOffBySeed_51 : decode cX8_letOffBySeed 51 = .ok (.iload 7, 2) := by decide +kernel
theorem dX8_letOffBySeed_53 : decode cX8_letOffBySeed 53 = .ok (.iload 5, 2) := by decide +kernel
theorem dX8_letOffBySeed_55 : decode cX8_letOffBySeed 55 = .ok (.iload 5, 2) := by decide +kernel
theorem dX8_letOffBySeed_57 : decode cX8_letOffBySeed 57 = .ok (.iload 6, 2) := by decide +kernel
theorem dX8_letOffBySeed_59 : decode cX8_letOffBySeed 59 = .ok (.invokevirtual 15, 3) := by decide +kernel
theorem dX8_letOffBySeed_62 : decode cX8_letOffBySeed 62 = .ok (.ifCond .eq 12, 3) := by decide +kernel
theorem dX8_letOffBySeed_65 : decode cX8_letOffBySeed 65 = .ok (.iload 5, 2) := by decide +kernel
theorem dX8_letOffBySeed_67 : decode cX8_letOffBySeed 67 = .ok (.iconst 1, 1) := by decide +kernel
theorem dX8_letOffBySeed_68 : decode cX8_letOffBySeed 68 = .ok (.iload 7, 2) := by decide +kernel
theorem dX8_letOffBySeed_70 : decode cX8_letOffBySeed 70 = .ok (.ishl, 1) := by decide +kernel
theorem dX8_letOffBySeed_71 : decode cX8_letOffBySeed 71 = .ok (.ior, 1) := by decide +kernel
theorem dX8_letOffBySeed_72 : decode cX8_letOffBySeed 72 = .ok (.istore 5, 2) := by decide +kernel
theorem dX8_letOffBySeed_74 : decode cX8_letOffBySeed 74 = .ok (.iinc 6 1, 3) := by decide +kernel
theorem dX8_letOffBySeed_77 : decode cX8_letOffBySeed 77 = .ok (.goto (-68), 3) := by decide +kernel
theorem dX8_letOffBySeed_80 : decode cX8_letOffBySeed 80 = .ok (.aload_n 0, 1) := by decide +kernel
theorem dX8_letOffBySeed_81 : decode cX8_letOffBySeed 81 = .ok (.getfield 41, 3) := by decide +kernel
theorem dX8_letOffBySeed_84 : decode cX8_letOffBySeed 84 = .ok (.iload 5, 2) := by decide +kernel
theorem dX8_letOffBySeed_86 : decode cX8_letOffBySeed 86 = .ok (.ior, 1) := by decide +kernel
theorem dX8_letOffBySeed_87 : decode cX8_letOffBySeed 87 = .ok (.invokestatic 29, 3) := by decide +kernel
theorem dX8_letOffBySeed_90 : decode cX8_letOffBySeed 90 = .ok (.ireturn, 1) := by decide +kernel
theorem dX9_init_0 : decode cX9_init 0 = .ok (.aload_n 0, 1) := by decide +kernel
theorem dX9_init_1 : decode cX9_init 1 = .ok (.invokespecial 3, 3) := by decide +kernel
theorem dX9_init_4 : decode cX9_init 4 = .ok (.aload_n 0, 1) := by decide +kernel
theorem dX9_init_5 : decode cX9_init 5 = .ok (.sipush 150, 3) := by decide +kernel
theorem dX9_init_8 : decode cX9_init 8 = .ok (.newarray .byte, 2) := by decide +kernel
theorem dX9_init_10 : decode cX9_init 10 = .ok (.putfield 9, 3) := by decide +kernel
theorem dX9_init_13 : decode cX9_init 13 = .ok (.return_, 1) := by decide +kernel
theorem dX9_add_0 : decode cX9_add 0 = .ok (.aload_n 0, 1) := by decide +kernel
theorem dX9_add_1 : decode cX9_add 1 = .ok (.getfield 9, 3) := by decide +kernel
theorem dX9_add_4 : decode cX9_add 4 = .ok (.aload_n 0, 1) := by decide +kernel
theorem dX9_add_5 : decode cX9_add 5 = .ok (.getfield 15, 3) := by decide +kernel
theorem dX9_add_8 : decode cX9_add 8 = .ok (.iload_n 1, 1) := by decide +kernel
theorem dX9_add_9 : decode cX9_add 9 = .ok (.i2b, 1) := by decide +kernel
theorem dX9_add_10 : decode cX9_add 10 = .ok (.bastore, 1) := by decide +kernel
theorem dX9_add_11 : decode cX9_add 11 = .ok (.aload_n 0, 1) := by decide +kernel
theorem dX9_add_12 : decode cX9_add 12 = .ok (.dup, 1) := by decide +kernel
theorem dX9_add_13 : decode cX9_add 13 = .ok (.getfield 15, 3) := by decide +kernel
theorem dX9_add_16 : decode cX9_add 16 = .ok (.iconst 1, 1) := by decide +kernel
theorem dX9_add_17 : decode cX9_add 17 = .ok (.iadd, 1) := by decide +kernel
theorem dX9_add_18 : decode cX9_add 18 = .ok (.putfield 15, 3) := by decide +kernel
theorem dX9_add_21 : decode cX9_add 21 = .ok (.aload_n 0, 1) := by decide +kernel
theorem dX9_add_22 : decode cX9_add 22 = .ok (.getfield 15, 3) := by decide +kernel
theorem dX9_add_25 : decode cX9_add 25 = .ok (.ireturn, 1) := by decide +kernel
theorem dX9_rewind_0 : decode cX9_rewind 0 = .ok (.aload_n 0, 1) := by decide +kernel
theorem dX9_rewind_1 : decode cX9_rewind 1 = .ok (.iconst 0, 1) := by decide +kernel
theorem dX9_rewind_2 : decode cX9_rewind 2 = .ok (.putfield 19, 3) := by decide +kernel
theorem dX9_rewind_5 : decode cX9_rewind 5 = .ok (.return_, 1) := by decide +kernel
set_option maxRecDepth 20000 in
theorem ggX9_step_X9_isLetter : GoodIn wsX9_step wsX9_isLetter := goodIn_r _ [10] (by decide +kernel) (by decide +kernel)
set_option maxRecDepth 20000 in
theorem gX9_step_X9_isLetter : GoodIn wsX9_step (va_wsS RX9 31 yX9_isLetter wsX9_isLetter) := goodIn_app (goodIn_of _ (by decide +kernel)) ggX9_step_X9_isLetter
set_option maxRecDepth 20000 in
theorem ggX9_step_X9_stepWord : GoodIn wsX9_step wsX9_stepWord := goodIn_r _ [14, 1, 2, 3, 6, 5, 7, 8, 9, 10, 15, 16, 17, 18, 19, 20, 21, 4, 22, 23, 24, 25, 26, 27, 28, 29, 30, 31, 32, 33, 34, 35, 36, 37, 38, 39, 40, 41, 42, 43, 44, 45, 46, 47, 48, 49, 50, 51, 52, 53, 54, 55, 56, 57, 58, 59, 60, 61, 62, 63, 64, 65, 66, 67, 68, 69, 70, 78, 79, 80, 81, 82, 83] (by decide +kernel) (by decide +kernel)
set_option maxRecDepth 20000 in
theorem gX9_step_X9_stepWord : GoodIn wsX9_step (wsV RX9 35 RX9 yX9_stepWord wsX9_stepWord) := goodIn_app (goodIn_of _ (by decide +kernel)) ggX9_step_X9_stepWord
set_option maxRecDepth 20000 in
theorem ggX9_step_X9_isFigure : GoodIn wsX9_step wsX9_isFigure := goodIn_r _ [73] (by decide +kernel) (by decide +kernel)
set_option maxRecDepth 20000 in
theorem gX9_step_X9_isFigure : GoodIn wsX9_step (va_wsS RX9 38 yX9_isFigure wsX9_isFigure) := goodIn_app (goodIn_of _ (by decide +kernel)) ggX9_step_X9_isFigure
set_option maxRecDepth 20000 in
theorem ggX9_step_X9_stepNumber : GoodIn wsX9_step wsX9_stepNumber := goodIn_r _ [77, 1, 2, 3, 4, 6, 5, 71, 72, 9, 73, 78, 79, 80, 81, 82, 83] (by decide +kernel) (by decide +kernel)
set_option maxRecDepth 20000 in
theorem gX9_step_X9_stepNumber : GoodIn wsX9_step (wsV RX9 41 RX9 yX9_stepNumber wsX9_stepNumber) := goodIn_app (goodIn_of _ (by decide +kernel)) ggX9_step_X9_stepNumber
theorem dX9_step_0 : decode cX9_step 0 = .ok (.aload_n 0, 1) := by decide +kernel
theorem dX9_step_1 : decode cX9_step 1 = .ok (.getfield 19, 3) := by decide +kernel
theorem dX9_step_4 : decode cX9_step 4 = .ok (.aload_n 0, 1) := by decide +kernel
theorem dX9_step_5 : decode cX9_step 5 = .ok (.getfield 15, 3) := by decide +kernel
theorem dX9_step_8 : decode cX9_step 8 = .ok (.if_icmp .ge 30, 3) := by decide +kernel
theorem dX9_step_11 : decode cX9_step 11 = .ok (.aload_n 0, 1) := by decide +kernel
theorem dX9_step_12 : decode cX9_step 12 = .ok (.getfield 9, 3) := by decide +kernel
theorem dX9_step_15 : decode cX9_step 15 = .ok (.aload_n 0, 1) := by decide +kernel
theorem dX9_step_16 : decode cX9_step 16 = .ok (.getfield 19, 3) := by decide +kernel
theorem dX9_step_19 : decode cX9_step 19 = .ok (.baload, 1) := by decide +kernel
theorem dX9_step_20 : decode cX9_step 20 = .ok (.bipush 32, 2) := by decide +kernel
theorem dX9_step_22 : decode cX9_step 22 = .ok (.if_icmp .ne 16, 3) := by decide +kernel
theorem dX9_step_25 : decode cX9_step 25 = .ok (.aload_n 0, 1) := by decide +kernel
theorem dX9_step_26 : decode cX9_step 26 = .ok (.dup, 1) := by decide +kernel
theorem dX9_step_27 : decode cX9_step 27 = .ok (.getfield 19, 3) := by decide +kernel
theorem dX9_step_30 : decode cX9_step 30 = .ok (.iconst 1, 1) := by decide +kernel
theorem dX9_step_31 : decode cX9_step 31 = .ok (.iadd, 1) := by decide +kernel
theorem dX9_step_32 : decode cX9_step 32 = .ok (.putfield 19, 3) := by decide +kernel
theorem dX9_step_35 : decode cX9_step 35 = .ok (.goto (-35), 3) := by decide +kernel
theorem dX9_step_38 : decode cX9_step 38 = .ok (.aload_n 0, 1) := by decide +kernel
theorem dX9_step_39 : decode cX9_step 39 = .ok (.aload_n 0, 1) := by decide +kernel
theorem dX9_step_40 : decode cX9_step 40 = .ok (.getfield 19, 3) := by decide +kernel
theorem dX9_step_43 : decode cX9_step 43 = .ok (.putfield 22, 3) := by decide +kernel
theorem dX9_step_46 : decode cX9_step 46 = .ok (.aload_n 0, 1) := by decide +kernel
theorem dX9_step_47 : decode cX9_step 47 = .ok (.iconst (-1), 1) := by decide +kernel
theorem dX9_step_48 : decode cX9_step 48 = .ok (.putfield 25, 3) := by decide +kernel
theorem dX9_step_51 : decode cX9_step 51 = .ok (.aload_n 0, 1) := by decide +kernel
theorem dX9_step_52 : decode cX9_step 52 = .ok (.getfield 19, 3) := by decide +kernel
theorem dX9_step_55 : decode cX9_step 55 = .ok (.aload_n 0, 1) := by decide +kernel
theorem dX9_step_56 : decode cX9_step 56 = .ok (.getfield 15, 3) := by decide +kernel
theorem dX9_step_59 : decode cX9_step 59 = .ok (.if_icmp .lt 11, 3) := by decide +kernel
theorem dX9_step_62 : decode cX9_step 62 = .ok (.aload_n 0, 1) := by decide +kernel
theorem dX9_step_63 : decode cX9_step 63 = .ok (.iconst 0, 1) := by decide +kernel
theorem dX9_step_64 : decode cX9_step 64 = .ok (.putfield 28, 3) := by decide +kernel
theorem dX9_step_67 : decode cX9_step 67 = .ok (.goto 80, 3) := by decide +kernel
theorem dX9_step_70 : decode cX9_step 70 = .ok (.aload_n 0, 1) := by decide +kernel
theorem dX9_step_71 : decode cX9_step 71 = .ok (.getfield 9, 3) := by decide +kernel
theorem dX9_step_74 : decode cX9_step 74 = .ok (.aload_n 0, 1) := by decide +kernel
theorem dX9_step_75 : decode cX9_step 75 = .ok (.getfield 19, 3) := by decide +kernel
theorem dX9_step_78 : decode cX9_step 78 = .ok (.baload, 1) := by decide +kernel
theorem dX9_step_79 : decode cX9_step 79 = .ok (.invokestatic 31, 3) := by decide +kernel
theorem dX9_step_82 : decode cX9_step 82 = .ok (.ifCond .eq 10, 3) := by decide +kernel
theorem dX9_step_85 : decode cX9_step 85 = .ok (.aload_n 0, 1) := by decide +kernel
theorem dX9_step_86 : decode cX9_step 86 = .ok (.invokevirtual 35, 3) := by decide +kernel
theorem dX9_step_89 : decode cX9_step 89 = .ok (.goto 58, 3) := by decide +kernel
theorem dX9_step_92 : decode cX9_step 92 = .ok (.aload_n 0, 1) := by decide +kernel
theorem dX9_step_93 : decode cX9_step 93 = .ok (.getfield 9, 3) := by decide +kernel
theorem dX9_step_96 : decode cX9_step 96 = .ok (.aload_n 0, 1) := by decide +kernel
theorem dX9_step_97 : decode cX9_step 97 = .ok (.getfield 19, 3) := by decide +kernel
theorem dX9_step_100 : decode cX9_step 100 = .ok (.baload, 1) := by decide +kernel
theorem dX9_step_101 : decode cX9_step 101 = .ok (.invokestatic 38, 3) := by decide +kernel
theorem dX9_step_104 : decode cX9_step 104 = .ok (.ifCond .eq 10, 3) := by decide +kernel
theorem dX9_step_107 : decode cX9_step 107 = .ok (.aload_n 0, 1) := by decide +kernel
theorem dX9_step_108 : decode cX9_step 108 = .ok (.invokevirtual 41, 3) := by decide +kernel
theorem dX9_step_111 : decode cX9_step 111 = .ok (.goto 36, 3) := by decide +kernel
theorem dX9_step_114 : decode cX9_step 114 = .ok (.aload_n 0, 1) := by decide +kernel
theorem dX9_step_115 : decode cX9_step 115 = .ok (.aload_n 0, 1) := by decide +kernel
theorem dX9_step_116 : decode cX9_step 116 = .ok (.getfield 9, 3) := by decide +kernel
theorem dX9_step_119 : decode cX9_step 119 = .ok (.aload_n 0, 1) := by decide +kernel
theorem dX9_step_120 : decode cX9_step 120 = .ok (.getfield 19, 3) := by decide +kernel
theorem dX9_step_123 : decode cX9_step 123 = .ok (.baload, 1) := by decide +kernel
theorem dX9_step_124 : decode cX9_step 124 = .ok (.bipush 59, 2) := by decide +kernel
theorem dX9_step_126 : decode cX9_step 126 = .ok (.if_icmp .ne 7, 3) := by decide +kernel
theorem dX9_step_129 : decode cX9_step 129 = .ok (.iconst 3, 1) := by decide +kernel
theorem dX9_step_130 : decode cX9_step 130 = .ok (.goto 4, 3) := by decide +kernel
theorem dX9_step_133 : decode cX9_step 133 = .ok (.iconst 4, 1) := by decide +kernel
theorem dX9_step_134 : decode cX9_step 134 = .ok (.putfield 28, 3) := by decide +kernel
theorem dX9_step_137 : decode cX9_step 137 = .ok (.aload_n 0, 1) := by decide +kernel
theorem dX9_step_138 : decode cX9_step 138 = .ok (.dup, 1) := by decide +kernel
theorem dX9_step_139 : decode cX9_step 139 = .ok (.getfield 19, 3) := by decide +kernel
theorem dX9_step_142 : decode cX9_step 142 = .ok (.iconst 1, 1) := by decide +kernel
theorem dX9_step_143 : decode cX9_step 143 = .ok (.iadd, 1) := by decide +kernel
theorem dX9_step_144 : decode cX9_step 144 = .ok (.putfield 19, 3) := by decide +kernel
theorem dX9_step_147 : decode cX9_step 147 = .ok (.return_, 1) := by decide +kernel
theorem dX9_isLetter_0 : decode cX9_isLetter 0 = .ok (.iload_n 0, 1) := by decide +kernel
theorem dX9_isLetter_1 : decode cX9_isLetter 1 = .ok (.bipush 97, 2) := by decide +kernel
theorem dX9_isLetter_3 : decode cX9_isLetter 3 = .ok (.if_icmp .lt 13, 3) := by decide +kernel
theorem dX9_isLetter_6 : decode cX9_isLetter 6 = .ok (.iload_n 0, 1) := by decide +kernel
theorem dX9_isLetter_7 : decode cX9_isLetter 7 = .ok (.bipush 122, 2) := by decide +kernel
theorem dX9_isLetter_9 : decode cX9_isLetter 9 = .ok (.if_icmp .gt 7, 3) := by decide +kernel
theorem dX9_isLetter_12 : decode cX9_isLetter 12 = .ok (.iconst 1, 1) := by decide +kernel
theorem dX9_isLetter_13 : decode cX9_isLetter 13 = .ok (.goto 4, 3) := by decide +kernel
theorem dX9_isLetter_16 : decode cX9_isLetter 16 = .ok (.iconst 0, 1) := by decide +kernel
theorem dX9_isLetter_17 : decode cX9_isLetter 17 = .ok (.ireturn, 1) := by decide +kernel
theorem dX9_isFigure_0 : decode cX9_isFigure 0 = .ok (.iload_n 0, 1) := by decide +kernel
theorem dX9_isFigure_1 : decode cX9_isFigure 1 = .ok (.bipush 48, 2) := by decide +kernel
theorem dX9_isFigure_3 : decode cX9_isFigure 3 = .ok (.if_icmp .lt 13, 3) := by decide +kernel
theorem dX9_isFigure_6 : decode cX9_isFigure 6 = .ok (.iload_n 0, 1) := by decide +kernel
theorem dX9_isFigure_7 : decode cX9_isFigure 7 = .ok (.bipush 57, 2) := by decide +kernel
theorem dX9_isFigure_9 : decode cX9_isFigure 9 = .ok (.if_icmp .gt 7, 3) := by decide +kernel
theorem dX9_isFigure_12 : decode cX9_isFigure 12 = .ok (.iconst 1, 1) := by decide +kernel
theorem dX9_isFigure_13 : decode cX9_isFigure 13 = .ok (.goto 4, 3) := by decide +kernel
theorem dX9_isFigure_16 : decode cX9_isFigure 16 = .ok (.iconst 0, 1) := by decide +kernel
theorem dX9_isFigure_17 : decode cX9_isFigure 17 = .ok (.ireturn, 1) := by decide +kernel
set_option maxRecDepth 20000 in
theorem ggX9_stepWord_X9_isLetter : GoodIn wsX9_stepWord wsX9_isLetter := goodIn_r _ [9] (by decide +kernel) (by decide +kernel)
set_option maxRecDepth 20000 in
theorem gX9_stepWord_X9_isLetter : GoodIn wsX9_stepWord (va_wsS RX9 31 yX9_isLetter wsX9_isLetter) := goodIn_app (goodIn_of _ (by decide +kernel)) ggX9_stepWord_X9_isLetter
set_option maxRecDepth 20000 in
theorem ggX9_stepWord_X9_name : GoodIn wsX9_stepWord wsX9_name := goodIn_r _ [12] (by decide +kernel) (by decide +kernel)
set_option maxRecDepth 20000 in
theorem gX9_stepWord_X9_name : GoodIn wsX9_stepWord (va_wsS RX9 44 yX9_name wsX9_name) := goodIn_app (goodIn_of _ (by decide +kernel)) ggX9_stepWord_X9_name
set_option maxRecDepth 20000 in
theorem ggX9_stepWord_X9_reads : GoodIn wsX9_stepWord wsX9_reads := goodIn_r _ [16, 1, 17, 3, 18, 19, 20, 21, 22, 23, 24, 25, 26, 27, 28, 29, 30, 31, 32, 33, 34, 35, 36, 37, 38, 39, 40, 41, 42, 43, 44, 45, 46, 47, 48, 49, 50, 51, 52, 53, 54, 55, 56, 57, 58, 59, 60, 61, 62, 63, 64, 65, 66, 67, 68, 69, 70, 71, 72] (by decide +kernel) (by decide +kernel)
set_option maxRecDepth 20000 in
theorem gX9_stepWord_X9_reads : GoodIn wsX9_stepWord (wsV RX9 48 RX9 yX9_reads wsX9_reads) := goodIn_app (goodIn_of _ (by decide +kernel)) ggX9_stepWord_X9_reads
theorem dX9_stepWord_0 : decode cX9_stepWord 0 = .ok (.aload_n 0, 1) := by decide +kernel
theorem dX9_stepWord_1 : decode cX9_stepWord 1 = .ok (.getfield 19, 3) := by decide +kernel
theorem dX9_stepWord_4 : decode cX9_stepWord 4 = .ok (.aload_n 0, 1) := by decide +kernel
theorem dX9_stepWord_5 : decode cX9_stepWord 5 = .ok (.getfield 15, 3) := by decide +kernel
theorem dX9_stepWord_8 : decode cX9_stepWord 8 = .ok (.if_icmp .ge 31, 3) := by decide +kernel
theorem dX9_stepWord_11 : decode cX9_stepWord 11 = .ok (.aload_n 0, 1) := by decide +kernel
theorem dX9_stepWord_12 : decode cX9_stepWord 12 = .ok (.getfield 9, 3) := by decide +kernel
theorem dX9_stepWord_15 : decode cX9_stepWord 15 = .ok (.aload_n 0, 1) := by decide +kernel
theorem dX9_stepWord_16 : decode cX9_stepWord 16 = .ok (.getfield 19, 3) := by decide +kernel
theorem dX9_stepWord_19 : decode cX9_stepWord 19 = .ok (.baload, 1) := by decide +kernel
theorem dX9_stepWord_20 : decode cX9_stepWord 20 = .ok (.invokestatic 31, 3) := by decide +kernel
theorem dX9_stepWord_23 : decode cX9_stepWord 23 = .ok (.ifCond .eq 16, 3) := by decide +kernel
theorem dX9_stepWord_26 : decode cX9_stepWord 26 = .ok (.aload_n 0, 1) := by decide +kernel
theorem dX9_stepWord_27 : decode cX9_stepWord 27 = .ok (.dup, 1) := by decide +kernel
theorem dX9_stepWord_28 : decode cX9_stepWord 28 = .ok (.getfield 19, 3) := by decide +kernel
theorem dX9_stepWord_31 : decode cX9_stepWord 31 = .ok (.iconst 1, 1) := by decide +kernel
theorem dX9_stepWord_32 : decode cX9_stepWord 32 = .ok (.iadd, 1) := by decide +kernel
theorem dX9_stepWord_33 : decode cX9_stepWord 33 = .ok (.putfield 19, 3) := by decide +kernel
theorem dX9_stepWord_36 : decode cX9_stepWord 36 = .ok (.goto (-36), 3) := by decide +kernel
theorem dX9_stepWord_39 : decode cX9_stepWord 39 = .ok (.aload_n 0, 1) := by decide +kernel
theorem dX9_stepWord_40 : decode cX9_stepWord 40 = .ok (.iconst 1, 1) := by decide +kernel
theorem dX9_stepWord_41 : decode cX9_stepWord 41 = .ok (.putfield 28, 3) := by decide +kernel
theorem dX9_stepWord_44 : decode cX9_stepWord 44 = .ok (.iconst 0, 1) := by decide +kernel
theorem dX9_stepWord_45 : decode cX9_stepWord 45 = .ok (.istore_n 1, 1) := by decide +kernel
theorem dX9_stepWord_46 : decode cX9_stepWord 46 = .ok (.iload_n 1, 1) := by decide +kernel
theorem dX9_stepWord_47 : decode cX9_stepWord 47 = .ok (.iconst 5, 1) := by decide +kernel
theorem dX9_stepWord_48 : decode cX9_stepWord 48 = .ok (.if_icmp .ge 25, 3) := by decide +kernel
theorem dX9_stepWord_51 : decode cX9_stepWord 51 = .ok (.aload_n 0, 1) := by decide +kernel
theorem dX9_stepWord_52 : decode cX9_stepWord 52 = .ok (.iload_n 1, 1) := by decide +kernel
theorem dX9_stepWord_53 : decode cX9_stepWord 53 = .ok (.invokestatic 44, 3) := by decide +kernel
theorem dX9_stepWord_56 : decode cX9_stepWord 56 = .ok (.invokevirtual 48, 3) := by decide +kernel
theorem dX9_stepWord_59 : decode cX9_stepWord 59 = .ok (.ifCond .eq 8, 3) := by decide +kernel
theorem dX9_stepWord_62 : decode cX9_stepWord 62 = .ok (.aload_n 0, 1) := by decide +kernel
theorem dX9_stepWord_63 : decode cX9_stepWord 63 = .ok (.iload_n 1, 1) := by decide +kernel
theorem dX9_stepWord_64 : decode cX9_stepWord 64 = .ok (.putfield 25, 3) := by decide +kernel
theorem dX9_stepWord_67 : decode cX9_stepWord 67 = .ok (.iinc 1 1, 3) := by decide +kernel
theorem dX9_stepWord_70 : decode cX9_stepWord 70 = .ok (.goto (-24), 3) := by decide +kernel
theorem dX9_stepWord_73 : decode cX9_stepWord 73 = .ok (.return_, 1) := by decide +kernel
set_option maxRecDepth 20000 in
theorem ggX9_reads_J0_length_8abf5 : GoodIn wsX9_reads wsJ0_length_8abf5 := goodIn_r _ [8, 9, 10, 11, 12, 7, 13, 14, 15] (by decide +kernel) (by decide +kernel)
set_option maxRecDepth 20000 in
theorem gX9_reads_J0_length_8abf5 : GoodIn wsX9_reads (wsV RX9 52 RJ0 yJ0_length_8abf5 wsJ0_length_8abf5) := goodIn_app (goodIn_of _ (by decide +kernel)) ggX9_reads_J0_length_8abf5
set_option maxRecDepth 20000 in
theorem ggX9_reads_J0_charAt_5068e : GoodIn wsX9_reads wsJ0_charAt_5068e := goodIn_r _ [19, 9, 20, 21, 22, 7, 23, 14, 15, 24, 25, 26, 27, 28, 29, 30, 31, 32, 33, 34, 35, 36, 37, 38, 39, 40, 41, 42, 43, 44, 45, 46, 47, 48, 49, 50, 51, 52] (by decide +kernel) (by decide +kernel)
set_option maxRecDepth 20000 in
theorem gX9_reads_J0_charAt_5068e : GoodIn wsX9_reads (wsV RX9 57 RJ0 yJ0_charAt_5068e wsJ0_charAt_5068e) := goodIn_app (goodIn_of _ (by decide +kernel)) ggX9_reads_J0_charAt_5068e
theorem dX9_reads_0 : decode cX9_reads 0 = .ok (.aload_n 1, 1) := by decide +kernel
theorem dX9_reads_1 : decode cX9_reads 1 = .ok (.invokevirtual 52, 3) := by decide +kernel
theorem dX9_reads_4 : decode cX9_reads 4 = .ok (.aload_n 0, 1) := by decide +kernel
theorem dX9_reads_5 : decode cX9_reads 5 = .ok (.getfield 19, 3) := by decide +kernel
theorem dX9_reads_8 : decode cX9_reads 8 = .ok (.aload_n 0, 1) := by decide +kernel
theorem dX9_reads_9 : decode cX9_reads 9 = .ok (.getfield 22, 3) := by decide +kernel
theorem dX9_reads_12 : decode cX9_reads 12 = .ok (.isub, 1) := by decide +kernel
theorem dX9_reads_13 : decode cX9_reads 13 = .ok (.if_icmp .eq 5, 3) := by decide +kernel
theorem dX9_reads_16 : decode cX9_reads 16 = .ok (.iconst 0, 1) := by decide +kernel
theorem dX9_reads_17 : decode cX9_reads 17 = .ok (.ireturn, 1) := by decide +kernel
theorem dX9_reads_18 : decode cX9_reads 18 = .ok (.iconst 0, 1) := by decide +kernel
theorem dX9_reads_19 : decode cX9_reads 19 = .ok (.istore_n 2, 1) := by decide +kernel
theorem dX9_reads_20 : decode cX9_reads 20 = .ok (.iload_n 2, 1) := by decide +kernel
theorem dX9_reads_21 : decode cX9_reads 21 = .ok (.aload_n 1, 1) := by decide +kernel
theorem dX9_reads_22 : decode cX9_reads 22 = .ok (.invokevirtual 52, 3) := by decide +kernel
theorem dX9_reads_25 : decode cX9_reads 25 = .ok (.if_icmp .ge 30, 3) := by decide +kernel
theorem dX9_reads_28 : decode cX9_reads 28 = .ok (.aload_n 0, 1) := by decide +kernel
theorem dX9_reads_29 : decode cX9_reads 29 = .ok (.getfield 9, 3) := by decide +kernel
theorem dX9_reads_32 : decode cX9_reads 32 = .ok (.aload_n 0, 1) := by decide +kernel
theorem dX9_reads_33 : decode cX9_reads 33 = .ok (.getfield 22, 3) := by decide +kernel
theorem dX9_reads_36 : decode cX9_reads 36 = .ok (.iload_n 2, 1) := by decide +kernel
theorem dX9_reads_37 : decode cX9_reads 37 = .ok (.iadd, 1) := by decide +kernel
theorem dX9_reads_38 : decode cX9_reads 38 = .ok (.baload, 1) := by decide +kernel
theorem dX9_reads_39 : decode cX9_reads 39 = .ok (.aload_n 1, 1) := by decide +kernel
theorem dX9_reads_40 : decode cX9_reads 40 = .ok (.iload_n 2, 1) := by decide +kernel
theorem dX9_reads_41 : decode cX9_reads 41 = .ok (.invokevirtual 57, 3) := by decide +kernel
theorem dX9_reads_44 : decode cX9_reads 44 = .ok (.if_icmp .eq 5, 3) := by decide +kernel
theorem dX9_reads_47 : decode cX9_reads 47 = .ok (.iconst 0, 1) := by decide +kernel
theorem dX9_reads_48 : decode cX9_reads 48 = .ok (.ireturn, 1) := by decide +kernel
theorem dX9_reads_49 : decode cX9_reads 49 = .ok (.iinc 2 1, 3) := by decide +kernel
theorem dX9_reads_52 : decode cX9_reads 52 = .ok (.goto (-32), 3) := by decide +kernel
theorem dX9_reads_55 : decode cX9_reads 55 = .ok (.iconst 1, 1) := by decide +kernel
theorem dX9_reads_56 : decode cX9_reads 56 = .ok (.ireturn, 1) := by decide +kernel
theorem dX9_name_0 : decode cX9_name 0 = .ok (.iload_n 0, 1) := by decide +kernel
theorem dX9_name_1 : decode cX9_name 1 = .ok (.tableswitch 43 0 3 #[31, 34, 37, 40], 31) := by decide +kernel
theorem dX9_name_32 : decode cX9_name 32 = .ok (.ldc 61, 2) := by decide +kernel
theorem dX9_name_34 : decode cX9_name 34 = .ok (.areturn, 1) := by decide +kernel
theorem dX9_name_35 : decode cX9_name 35 = .ok (.ldc 63, 2) := by decide +kernel
theorem dX9_name_37 : decode cX9_name 37 = .ok (.areturn, 1) := by decide +kernel
theorem dX9_name_38 : decode cX9_name 38 = .ok (.ldc 65, 2) := by decide +kernel
theorem dX9_name_40 : decode cX9_name 40 = .ok (.areturn, 1) := by decide +kernel
theorem dX9_name_41 : decode cX9_name 41 = .ok (.ldc 67, 2) := by decide +kernel
theorem dX9_name_43 : decode cX9_name 43 = .ok (.areturn, 1) := by decide +kernel
theorem dX9_name_44 : decode cX9_name 44 = .ok (.ldc 69, 2) := by decide +kernel
theorem dX9_name_46 : decode cX9_name 46 = .ok (.areturn, 1) := by decide +kernel
set_option maxRecDepth 20000 in
theorem ggX9_stepNumber_X9_isFigure : GoodIn wsX9_stepNumber wsX9_isFigure := goodIn_r _ [10] (by decide +kernel) (by decide +kernel)
set_option maxRecDepth 20000 in
theorem gX9_stepNumber_X9_isFigure : GoodIn wsX9_stepNumber (va_wsS RX9 38 yX9_isFigure wsX9_isFigure) := goodIn_app (goodIn_of _ (by decide +kernel)) ggX9_stepNumber_X9_isFigure
theorem dX9_stepNumber_0 : decode cX9_stepNumber 0 = .ok (.iconst 0, 1) := by decide +kernel
theorem dX9_stepNumber_1 : decode cX9_stepNumber 1 = .ok (.istore_n 1, 1) := by decide +kernel
theorem dX9_stepNumber_2 : decode cX9_stepNumber 2 = .ok (.aload_n 0, 1) := by decide +kernel
theorem dX9_stepNumber_3 : decode cX9_stepNumber 3 = .ok (.getfield 19, 3) := by decide +kernel
theorem dX9_stepNumber_6 : decode cX9_stepNumber 6 = .ok (.aload_n 0, 1) := by decide +kernel
theorem dX9_stepNumber_7 : decode cX9_stepNumber 7 = .ok (.getfield 15, 3) := by decide +kernel
theorem dX9_stepNumber_10 : decode cX9_stepNumber 10 = .ok (.if_icmp .ge 53, 3) := by decide +kernel
theorem dX9_stepNumber_13 : decode cX9_stepNumber 13 = .ok (.aload_n 0, 1) := by decide +kernel
theorem dX9_stepNumber_14 : decode cX9_stepNumber 14 = .ok (.getfield 9, 3) := by decide +kernel
theorem dX9_stepNumber_17 : decode cX9_stepNumber 17 = .ok (.aload_n 0, 1) := by decide +kernel
theorem dX9_stepNumber_18 : decode cX9_stepNumber 18 = .ok (.getfield 19, 3) := by decide +kernel
theorem dX9_stepNumber_21 : decode cX9_stepNumber 21 = .ok (.baload, 1) := by decide +kernel
theorem dX9_stepNumber_22 : decode cX9_stepNumber 22 = .ok (.invokestatic 38, 3) := by decide +kernel
theorem dX9_stepNumber_25 : decode cX9_stepNumber 25 = .ok (.ifCond .eq 38, 3) := by decide +kernel
theorem dX9_stepNumber_28 : decode cX9_stepNumber 28 = .ok (.iload_n 1, 1) := by decide +kernel
theorem dX9_stepNumber_29 : decode cX9_stepNumber 29 = .ok (.bipush 10, 2) := by decide +kernel
theorem dX9_stepNumber_31 : decode cX9_stepNumber 31 = .ok (.imul, 1) := by decide +kernel
theorem dX9_stepNumber_32 : decode cX9_stepNumber 32 = .ok (.aload_n 0, 1) := by decide +kernel
theorem dX9_stepNumber_33 : decode cX9_stepNumber 33 = .ok (.getfield 9, 3) := by decide +kernel
theorem dX9_stepNumber_36 : decode cX9_stepNumber 36 = .ok (.aload_n 0, 1) := by decide +kernel
theorem dX9_stepNumber_37 : decode cX9_stepNumber 37 = .ok (.getfield 19, 3) := by decide +kernel
theorem dX9_stepNumber_40 : decode cX9_stepNumber 40 = .ok (.baload, 1) := by decide +kernel
theorem dX9_stepNumber_41 : decode cX9_stepNumber 41 = .ok (.iadd, 1) := by decide +kernel
theorem dX9_stepNumber_42 : decode cX9_stepNumber 42 = .ok (.bipush 48, 2) := by decide +kernel
theorem dX9_stepNumber_44 : decode cX9_stepNumber 44 = .ok (.isub, 1) := by decide +kernel
theorem dX9_stepNumber_45 : decode cX9_stepNumber 45 = .ok (.sipush 1000, 3) := by decide +kernel
theorem dX9_stepNumber_48 : decode cX9_stepNumber 48 = .ok (.irem, 1) := by decide +kernel
theorem dX9_stepNumber_49 : decode cX9_stepNumber 49 = .ok (.istore_n 1, 1) := by decide +kernel
theorem dX9_stepNumber_50 : decode cX9_stepNumber 50 = .ok (.aload_n 0, 1) := by decide +kernel
theorem dX9_stepNumber_51 : decode cX9_stepNumber 51 = .ok (.dup, 1) := by decide +kernel
theorem dX9_stepNumber_52 : decode cX9_stepNumber 52 = .ok (.getfield 19, 3) := by decide +kernel
theorem dX9_stepNumber_55 : decode cX9_stepNumber 55 = .ok (.iconst 1, 1) := by decide +kernel
theorem dX9_stepNumber_56 : decode cX9_stepNumber 56 = .ok (.iadd, 1) := by decide +kernel
theorem dX9_stepNumber_57 : decode cX9_stepNumber 57 = .ok (.putfield 19, 3) := by decide +kernel
theorem dX9_stepNumber_60 : decode cX9_stepNumber 60 = .ok (.goto (-58), 3) := by decide +kernel
theorem dX9_stepNumber_63 : decode cX9_stepNumber 63 = .ok (.aload_n 0, 1) := by decide +kernel
theorem dX9_stepNumber_64 : decode cX9_stepNumber 64 = .ok (.aload_n 0, 1) := by decide +kernel
theorem dX9_stepNumber_65 : decode cX9_stepNumber 65 = .ok (.getfield 19, 3) := by decide +kernel
theorem dX9_stepNumber_68 : decode cX9_stepNumber 68 = .ok (.aload_n 0, 1) := by decide +kernel
theorem dX9_stepNumber_69 : decode cX9_stepNumber 69 = .ok (.getfield 22, 3) := by decide +kernel
theorem dX9_stepNumber_72 : decode cX9_stepNumber 72 = .ok (.isub, 1) := by decide +kernel
theorem dX9_stepNumber_73 : decode cX9_stepNumber 73 = .ok (.iconst 2, 1) := by decide +kernel
theorem dX9_stepNumber_74 : decode cX9_stepNumber 74 = .ok (.if_icmp .le 7, 3) := by decide +kernel
theorem dX9_stepNumber_77 : decode cX9_stepNumber 77 = .ok (.iconst 4, 1) := by decide +kernel
theorem dX9_stepNumber_78 : decode cX9_stepNumber 78 = .ok (.goto 4, 3) := by decide +kernel
theorem dX9_stepNumber_81 : decode cX9_stepNumber 81 = .ok (.iconst 2, 1) := by decide +kernel
theorem dX9_stepNumber_82 : decode cX9_stepNumber 82 = .ok (.putfield 28, 3) := by decide +kernel
theorem dX9_stepNumber_85 : decode cX9_stepNumber 85 = .ok (.aload_n 0, 1) := by decide +kernel
theorem dX9_stepNumber_86 : decode cX9_stepNumber 86 = .ok (.iload_n 1, 1) := by decide +kernel
theorem dX9_stepNumber_87 : decode cX9_stepNumber 87 = .ok (.putfield 25, 3) := by decide +kernel
theorem dX9_stepNumber_90 : decode cX9_stepNumber 90 = .ok (.return_, 1) := by decide +kernel
set_option maxRecDepth 20000 in
theorem ggX10_init_X7_init : GoodIn wsX10_init wsX7_init := goodIn_r _ [24, 25, 2, 3, 26, 4, 27, 47, 48, 49] (by decide +kernel) (by decide +kernel)
set_option maxRecDepth 20000 in
theorem gX10_init_X7_init : GoodIn wsX10_init (wsX7_init) := ggX10_init_X7_init
set_option maxRecDepth 20000 in
theorem ggX10_init_X4_init : GoodIn wsX10_init wsX4_init := goodIn_r _ [29, 30, 2, 3, 4, 31, 50, 51] (by decide +kernel) (by decide +kernel)
set_option maxRecDepth 20000 in
theorem gX10_init_X4_init_n50 : GoodIn wsX10_init (wsX4_init) := ggX10_init_X4_init
theorem dX10_init_0 : decode cX10_init 0 = .ok (.aload_n 0, 1) := by decide +kernel
theorem dX10_init_1 : decode cX10_init 1 = .ok (.invokespecial 3, 3) := by decide +kernel
theorem dX10_init_4 : decode cX10_init 4 = .ok (.aload_n 0, 1) := by decide +kernel
theorem dX10_init_5 : decode cX10_init 5 = .ok (.bipush 6, 2) := by decide +kernel
theorem dX10_init_7 : decode cX10_init 7 = .ok (.newarray .int, 2) := by decide +kernel
theorem dX10_init_9 : decode cX10_init 9 = .ok (.putfield 9, 3) := by decide +kernel
theorem dX10_init_12 : decode cX10_init 12 = .ok (.aload_n 0, 1) := by decide +kernel
theorem dX10_init_13 : decode cX10_init 13 = .ok (.bipush 6, 2) := by decide +kernel
theorem dX10_init_15 : decode cX10_init 15 = .ok (.newarray .int, 2) := by decide +kernel
theorem dX10_init_17 : decode cX10_init 17 = .ok (.putfield 15, 3) := by decide +kernel
theorem dX10_init_20 : decode cX10_init 20 = .ok (.aload_n 0, 1) := by decide +kernel
theorem dX10_init_21 : decode cX10_init 21 = .ok (.bipush 8, 2) := by decide +kernel
theorem dX10_init_23 : decode cX10_init 23 = .ok (.newarray .int, 2) := by decide +kernel
theorem dX10_init_25 : decode cX10_init 25 = .ok (.putfield 18, 3) := by decide +kernel
theorem dX10_init_28 : decode cX10_init 28 = .ok (.aload_n 0, 1) := by decide +kernel
theorem dX10_init_29 : decode cX10_init 29 = .ok (.bipush 8, 2) := by decide +kernel
theorem dX10_init_31 : decode cX10_init 31 = .ok (.newarray .int, 2) := by decide +kernel
theorem dX10_init_33 : decode cX10_init 33 = .ok (.putfield 21, 3) := by decide +kernel
theorem dX10_init_36 : decode cX10_init 36 = .ok (.aload_n 0, 1) := by decide +kernel
theorem dX10_init_37 : decode cX10_init 37 = .ok (.bipush 8, 2) := by decide +kernel
theorem dX10_init_39 : decode cX10_init 39 = .ok (.newarray .int, 2) := by decide +kernel
theorem dX10_init_41 : decode cX10_init 41 = .ok (.putfield 24, 3) := by decide +kernel
theorem dX10_init_44 : decode cX10_init 44 = .ok (.aload_n 0, 1) := by decide +kernel
theorem dX10_init_45 : decode cX10_init 45 = .ok (.bipush 8, 2) := by decide +kernel
theorem dX10_init_47 : decode cX10_init 47 = .ok (.newarray .int, 2) := by decide +kernel
theorem dX10_init_49 : decode cX10_init 49 = .ok (.putfield 27, 3) := by decide +kernel
theorem dX10_init_52 : decode cX10_init 52 = .ok (.aload_n 0, 1) := by decide +kernel
theorem dX10_init_53 : decode cX10_init 53 = .ok (.bipush 8, 2) := by decide +kernel
theorem dX10_init_55 : decode cX10_init 55 = .ok (.newarray .int, 2) := by decide +kernel
theorem dX10_init_57 : decode cX10_init 57 = .ok (.putfield 30, 3) := by decide +kernel
theorem dX10_init_60 : decode cX10_init 60 = .ok (.aload_n 0, 1) := by decide +kernel
theorem dX10_init_61 : decode cX10_init 61 = .ok (.new 33, 3) := by decide +kernel
theorem dX10_init_64 : decode cX10_init 64 = .ok (.dup, 1) := by decide +kernel
theorem dX10_init_65 : decode cX10_init 65 = .ok (.iconst 5, 1) := by decide +kernel
theorem dX10_init_66 : decode cX10_init 66 = .ok (.invokespecial 35, 3) := by decide +kernel
theorem dX10_init_69 : decode cX10_init 69 = .ok (.putfield 38, 3) := by decide +kernel
theorem dX10_init_72 : decode cX10_init 72 = .ok (.aload_n 0, 1) := by decide +kernel
theorem dX10_init_73 : decode cX10_init 73 = .ok (.new 33, 3) := by decide +kernel
theorem dX10_init_76 : decode cX10_init 76 = .ok (.dup, 1) := by decide +kernel
theorem dX10_init_77 : decode cX10_init 77 = .ok (.bipush 6, 2) := by decide +kernel
theorem dX10_init_79 : decode cX10_init 79 = .ok (.invokespecial 35, 3) := by decide +kernel
theorem dX10_init_82 : decode cX10_init 82 = .ok (.putfield 42, 3) := by decide +kernel
theorem dX10_init_85 : decode cX10_init 85 = .ok (.aload_n 0, 1) := by decide +kernel
theorem dX10_init_86 : decode cX10_init 86 = .ok (.new 33, 3) := by decide +kernel
theorem dX10_init_89 : decode cX10_init 89 = .ok (.dup, 1) := by decide +kernel
theorem dX10_init_90 : decode cX10_init 90 = .ok (.bipush 6, 2) := by decide +kernel
theorem dX10_init_92 : decode cX10_init 92 = .ok (.invokespecial 35, 3) := by decide +kernel
theorem dX10_init_95 : decode cX10_init 95 = .ok (.putfield 45, 3) := by decide +kernel
theorem dX10_init_98 : decode cX10_init 98 = .ok (.aload_n 0, 1) := by decide +kernel
theorem dX10_init_99 : decode cX10_init 99 = .ok (.new 48, 3) := by decide +kernel
theorem dX10_init_102 : decode cX10_init 102 = .ok (.dup, 1) := by decide +kernel
theorem dX10_init_103 : decode cX10_init 103 = .ok (.invokespecial 50, 3) := by decide +kernel
theorem dX10_init_106 : decode cX10_init 106 = .ok (.putfield 51, 3) := by decide +kernel
theorem dX10_init_109 : decode cX10_init 109 = .ok (.return_, 1) := by decide +kernel
theorem dX10_empty_0 : decode cX10_empty 0 = .ok (.aload_n 0, 1) := by decide +kernel
theorem dX10_empty_1 : decode cX10_empty 1 = .ok (.iconst 0, 1) := by decide +kernel
theorem dX10_empty_2 : decode cX10_empty 2 = .ok (.putfield 55, 3) := by decide +kernel
theorem dX10_empty_5 : decode cX10_empty 5 = .ok (.aload_n 0, 1) := by decide +kernel
theorem dX10_empty_6 : decode cX10_empty 6 = .ok (.iconst 0, 1) := by decide +kernel
theorem dX10_empty_7 : decode cX10_empty 7 = .ok (.putfield 59, 3) := by decide +kernel
theorem dX10_empty_10 : decode cX10_empty 10 = .ok (.aload_n 0, 1) := by decide +kernel
theorem dX10_empty_11 : decode cX10_empty 11 = .ok (.iconst 0, 1) := by decide +kernel
theorem dX10_empty_12 : decode cX10_empty 12 = .ok (.putfield 62, 3) := by decide +kernel
theorem dX10_empty_15 : decode cX10_empty 15 = .ok (.aload_n 0, 1) := by decide +kernel
theorem dX10_empty_16 : decode cX10_empty 16 = .ok (.iconst 0, 1) := by decide +kernel
theorem dX10_empty_17 : decode cX10_empty 17 = .ok (.putfield 65, 3) := by decide +kernel
theorem dX10_empty_20 : decode cX10_empty 20 = .ok (.aload_n 0, 1) := by decide +kernel
theorem dX10_empty_21 : decode cX10_empty 21 = .ok (.getfield 38, 3) := by decide +kernel
theorem dX10_empty_24 : decode cX10_empty 24 = .ok (.iconst 0, 1) := by decide +kernel
theorem dX10_empty_25 : decode cX10_empty 25 = .ok (.putfield 68, 3) := by decide +kernel
theorem dX10_empty_28 : decode cX10_empty 28 = .ok (.aload_n 0, 1) := by decide +kernel
theorem dX10_empty_29 : decode cX10_empty 29 = .ok (.getfield 42, 3) := by decide +kernel
theorem dX10_empty_32 : decode cX10_empty 32 = .ok (.iconst 0, 1) := by decide +kernel
theorem dX10_empty_33 : decode cX10_empty 33 = .ok (.putfield 68, 3) := by decide +kernel
theorem dX10_empty_36 : decode cX10_empty 36 = .ok (.aload_n 0, 1) := by decide +kernel
theorem dX10_empty_37 : decode cX10_empty 37 = .ok (.getfield 45, 3) := by decide +kernel
theorem dX10_empty_40 : decode cX10_empty 40 = .ok (.iconst 0, 1) := by decide +kernel
theorem dX10_empty_41 : decode cX10_empty 41 = .ok (.putfield 68, 3) := by decide +kernel
theorem dX10_empty_44 : decode cX10_empty 44 = .ok (.aload_n 0, 1) := by decide +kernel
theorem dX10_empty_45 : decode cX10_empty 45 = .ok (.getfield 51, 3) := by decide +kernel
theorem dX10_empty_48 : decode cX10_empty 48 = .ok (.iconst 0, 1) := by decide +kernel
theorem dX10_empty_49 : decode cX10_empty 49 = .ok (.putfield 71, 3) := by decide +kernel
theorem dX10_empty_52 : decode cX10_empty 52 = .ok (.return_, 1) := by decide +kernel
set_option maxRecDepth 20000 in
theorem ggX10_take_X7_take : GoodIn wsX10_take wsX7_take := goodIn_r _ [24, 25, 26, 7, 8, 9, 27, 51, 52, 53] (by decide +kernel) (by decide +kernel)
set_option maxRecDepth 20000 in
theorem gX10_take_X7_take : GoodIn wsX10_take (wsV RX10 78 RX7 yX7_take wsX7_take) := goodIn_app (goodIn_of _ (by decide +kernel)) ggX10_take_X7_take
set_option maxRecDepth 20000 in
theorem ggX10_take_X4_take : GoodIn wsX10_take wsX4_take := goodIn_r _ [32, 33, 34, 7, 8, 9, 35, 54, 55] (by decide +kernel) (by decide +kernel)
set_option maxRecDepth 20000 in
theorem gX10_take_X4_take : GoodIn wsX10_take (wsV RX10 82 RX4 yX4_take wsX4_take) := goodIn_app (goodIn_of _ (by decide +kernel)) ggX10_take_X4_take
theorem dX10_take_0 : decode cX10_take 0 = .ok (.aload_n 0, 1) := by decide +kernel
theorem dX10_take_1 : decode cX10_take 1 = .ok (.aload_n 1, 1) := by decide +kernel
theorem dX10_take_2 : decode cX10_take 2 = .ok (.getfield 55, 3) := by decide +kernel
theorem dX10_take_5 : decode cX10_take 5 = .ok (.putfield 55, 3) := by decide +kernel
theorem dX10_take_8 : decode cX10_take 8 = .ok (.aload_n 0, 1) := by decide +kernel
theorem dX10_take_9 : decode cX10_take 9 = .ok (.aload_n 1, 1) := by decide +kernel
theorem dX10_take_10 : decode cX10_take 10 = .ok (.getfield 59, 3) := by decide +kernel
theorem dX10_take_13 : decode cX10_take 13 = .ok (.putfield 59, 3) := by decide +kernel
theorem dX10_take_16 : decode cX10_take 16 = .ok (.aload_n 0, 1) := by decide +kernel
theorem dX10_take_17 : decode cX10_take 17 = .ok (.aload_n 1, 1) := by decide +kernel
theorem dX10_take_18 : decode cX10_take 18 = .ok (.getfield 62, 3) := by decide +kernel
theorem dX10_take_21 : decode cX10_take 21 = .ok (.putfield 62, 3) := by decide +kernel
theorem dX10_take_24 : decode cX10_take 24 = .ok (.aload_n 0, 1) := by decide +kernel
theorem dX10_take_25 : decode cX10_take 25 = .ok (.aload_n 1, 1) := by decide +kernel
theorem dX10_take_26 : decode cX10_take 26 = .ok (.getfield 65, 3) := by decide +kernel
theorem dX10_take_29 : decode cX10_take 29 = .ok (.putfield 65, 3) := by decide +kernel
theorem dX10_take_32 : decode cX10_take 32 = .ok (.aload_n 1, 1) := by decide +kernel
theorem dX10_take_33 : decode cX10_take 33 = .ok (.getfield 9, 3) := by decide +kernel
theorem dX10_take_36 : decode cX10_take 36 = .ok (.iconst 0, 1) := by decide +kernel
theorem dX10_take_37 : decode cX10_take 37 = .ok (.aload_n 0, 1) := by decide +kernel
theorem dX10_take_38 : decode cX10_take 38 = .ok (.getfield 9, 3) := by decide +kernel
theorem dX10_take_41 : decode cX10_take 41 = .ok (.iconst 0, 1) := by decide +kernel
theorem dX10_take_42 : decode cX10_take 42 = .ok (.bipush 6, 2) := by decide +kernel
theorem dX10_take_44 : decode cX10_take 44 = .ok (.invokestatic 72, 3) := by decide +kernel
theorem dX10_take_47 : decode cX10_take 47 = .ok (.aload_n 1, 1) := by decide +kernel
theorem dX10_take_48 : decode cX10_take 48 = .ok (.getfield 15, 3) := by decide +kernel
theorem dX10_take_51 : decode cX10_take 51 = .ok (.iconst 0, 1) := by decide +kernel
theorem dX10_take_52 : decode cX10_take 52 = .ok (.aload_n 0, 1) := by decide +kernel
theorem dX10_take_53 : decode cX10_take 53 = .ok (.getfield 15, 3) := by decide +kernel
theorem dX10_take_56 : decode cX10_take 56 = .ok (.iconst 0, 1) := by decide +kernel
theorem dX10_take_57 : decode cX10_take 57 = .ok (.bipush 6, 2) := by decide +kernel
theorem dX10_take_59 : decode cX10_take 59 = .ok (.invokestatic 72, 3) := by decide +kernel
theorem dX10_take_62 : decode cX10_take 62 = .ok (.aload_n 1, 1) := by decide +kernel
theorem dX10_take_63 : decode cX10_take 63 = .ok (.getfield 18, 3) := by decide +kernel
theorem dX10_take_66 : decode cX10_take 66 = .ok (.iconst 0, 1) := by decide +kernel
theorem dX10_take_67 : decode cX10_take 67 = .ok (.aload_n 0, 1) := by decide +kernel
theorem dX10_take_68 : decode cX10_take 68 = .ok (.getfield 18, 3) := by decide +kernel
theorem dX10_take_71 : decode cX10_take 71 = .ok (.iconst 0, 1) := by decide +kernel
theorem dX10_take_72 : decode cX10_take 72 = .ok (.bipush 8, 2) := by decide +kernel
theorem dX10_take_74 : decode cX10_take 74 = .ok (.invokestatic 72, 3) := by decide +kernel
theorem dX10_take_77 : decode cX10_take 77 = .ok (.aload_n 1, 1) := by decide +kernel
theorem dX10_take_78 : decode cX10_take 78 = .ok (.getfield 21, 3) := by decide +kernel
theorem dX10_take_81 : decode cX10_take 81 = .ok (.iconst 0, 1) := by decide +kernel
theorem dX10_take_82 : decode cX10_take 82 = .ok (.aload_n 0, 1) := by decide +kernel
theorem dX10_take_83 : decode cX10_take 83 = .ok (.getfield 21, 3) := by decide +kernel
theorem dX10_take_86 : decode cX10_take 86 = .ok (.iconst 0, 1) := by decide +kernel
theorem dX10_take_87 : decode cX10_take 87 = .ok (.bipush 8, 2) := by decide +kernel
theorem dX10_take_89 : decode cX10_take 89 = .ok (.invokestatic 72, 3) := by decide +kernel
theorem dX10_take_92 : decode cX10_take 92 = .ok (.aload_n 1, 1) := by decide +kernel
theorem dX10_take_93 : decode cX10_take 93 = .ok (.getfield 24, 3) := by decide +kernel
theorem dX10_take_96 : decode cX10_take 96 = .ok (.iconst 0, 1) := by decide +kernel
theorem dX10_take_97 : decode cX10_take 97 = .ok (.aload_n 0, 1) := by decide +kernel
theorem dX10_take_98 : decode cX10_take 98 = .ok (.getfield 24, 3) := by decide +kernel
theorem dX10_take_101 : decode cX10_take 101 = .ok (.iconst 0, 1) := by decide +kernel
theorem dX10_take_102 : decode cX10_take 102 = .ok (.bipush 8, 2) := by decide +kernel
theorem dX10_take_104 : decode cX10_take 104 = .ok (.invokestatic 72, 3) := by decide +kernel
theorem dX10_take_107 : decode cX10_take 107 = .ok (.aload_n 1, 1) := by decide +kernel
theorem dX10_take_108 : decode cX10_take 108 = .ok (.getfield 27, 3) := by decide +kernel
theorem dX10_take_111 : decode cX10_take 111 = .ok (.iconst 0, 1) := by decide +kernel
theorem dX10_take_112 : decode cX10_take 112 = .ok (.aload_n 0, 1) := by decide +kernel
theorem dX10_take_113 : decode cX10_take 113 = .ok (.getfield 27, 3) := by decide +kernel
theorem dX10_take_116 : decode cX10_take 116 = .ok (.iconst 0, 1) := by decide +kernel
theorem dX10_take_117 : decode cX10_take 117 = .ok (.bipush 8, 2) := by decide +kernel
theorem dX10_take_119 : decode cX10_take 119 = .ok (.invokestatic 72, 3) := by decide +kernel
theorem dX10_take_122 : decode cX10_take 122 = .ok (.aload_n 1, 1) := by decide +kernel
theorem dX10_take_123 : decode cX10_take 123 = .ok (.getfield 30, 3) := by decide +kernel
theorem dX10_take_126 : decode cX10_take 126 = .ok (.iconst 0, 1) := by decide +kernel
theorem dX10_take_127 : decode cX10_take 127 = .ok (.aload_n 0, 1) := by decide +kernel
theorem dX10_take_128 : decode cX10_take 128 = .ok (.getfield 30, 3) := by decide +kernel
theorem dX10_take_131 : decode cX10_take 131 = .ok (.iconst 0, 1) := by decide +kernel
theorem dX10_take_132 : decode cX10_take 132 = .ok (.bipush 8, 2) := by decide +kernel
theorem dX10_take_134 : decode cX10_take 134 = .ok (.invokestatic 72, 3) := by decide +kernel
theorem dX10_take_137 : decode cX10_take 137 = .ok (.aload_n 0, 1) := by decide +kernel
theorem dX10_take_138 : decode cX10_take 138 = .ok (.getfield 38, 3) := by decide +kernel
theorem dX10_take_141 : decode cX10_take 141 = .ok (.aload_n 1, 1) := by decide +kernel
theorem dX10_take_142 : decode cX10_take 142 = .ok (.getfield 38, 3) := by decide +kernel
theorem dX10_take_145 : decode cX10_take 145 = .ok (.invokevirtual 78, 3) := by decide +kernel
theorem dX10_take_148 : decode cX10_take 148 = .ok (.aload_n 0, 1) := by decide +kernel
theorem dX10_take_149 : decode cX10_take 149 = .ok (.getfield 42, 3) := by decide +kernel
theorem dX10_take_152 : decode cX10_take 152 = .ok (.aload_n 1, 1) := by decide +kernel
theorem dX10_take_153 : decode cX10_take 153 = .ok (.getfield 42, 3) := by decide +kernel
theorem dX10_take_156 : decode cX10_take 156 = .ok (.invokevirtual 78, 3) := by decide +kernel
theorem dX10_take_159 : decode cX10_take 159 = .ok (.aload_n 0, 1) := by decide +kernel
theorem dX10_take_160 : decode cX10_take 160 = .ok (.getfield 45, 3) := by decide +kernel
theorem dX10_take_163 : decode cX10_take 163 = .ok (.aload_n 1, 1) := by decide +kernel
theorem dX10_take_164 : decode cX10_take 164 = .ok (.getfield 45, 3) := by decide +kernel
theorem dX10_take_167 : decode cX10_take 167 = .ok (.invokevirtual 78, 3) := by decide +kernel
theorem dX10_take_170 : decode cX10_take 170 = .ok (.aload_n 0, 1) := by decide +kernel
theorem dX10_take_171 : decode cX10_take 171 = .ok (.getfield 51, 3) := by decide +kernel
theorem dX10_take_174 : decode cX10_take 174 = .ok (.aload_n 1, 1) := by decide +kernel
theorem dX10_take_175 : decode cX10_take 175 = .ok (.getfield 51, 3) := by decide +kernel
theorem dX10_take_178 : decode cX10_take 178 = .ok (.invokevirtual 82, 3) := by decide +kernel
theorem dX10_take_181 : decode cX10_take 181 = .ok (.return_, 1) := by decide +kernel
set_option maxRecDepth 20000 in
theorem ggX10_hasPerson_X11_within : GoodIn wsX10_hasPerson wsX11_within := goodIn_r _ [4] (by decide +kernel) (by decide +kernel)
set_option maxRecDepth 20000 in
theorem gX10_hasPerson_X11_within_n85 : GoodIn wsX10_hasPerson (wsX11_within) := ggX10_hasPerson_X11_within
theorem dX10_hasPerson_0 : decode cX10_hasPerson 0 = .ok (.iload_n 1, 1) := by decide +kernel
theorem dX10_hasPerson_1 : decode cX10_hasPerson 1 = .ok (.iconst 0, 1) := by decide +kernel
theorem dX10_hasPerson_2 : decode cX10_hasPerson 2 = .ok (.aload_n 0, 1) := by decide +kernel
theorem dX10_hasPerson_3 : decode cX10_hasPerson 3 = .ok (.getfield 55, 3) := by decide +kernel
theorem dX10_hasPerson_6 : decode cX10_hasPerson 6 = .ok (.iconst 1, 1) := by decide +kernel
theorem dX10_hasPerson_7 : decode cX10_hasPerson 7 = .ok (.isub, 1) := by decide +kernel
theorem dX10_hasPerson_8 : decode cX10_hasPerson 8 = .ok (.invokestatic 85, 3) := by decide +kernel
theorem dX10_hasPerson_11 : decode cX10_hasPerson 11 = .ok (.ireturn, 1) := by decide +kernel
set_option maxRecDepth 20000 in
theorem ggX10_hasWrong_X11_within : GoodIn wsX10_hasWrong wsX11_within := goodIn_r _ [4] (by decide +kernel) (by decide +kernel)
set_option maxRecDepth 20000 in
theorem gX10_hasWrong_X11_within_n85 : GoodIn wsX10_hasWrong (wsX11_within) := ggX10_hasWrong_X11_within
theorem dX10_hasWrong_0 : decode cX10_hasWrong 0 = .ok (.iload_n 1, 1) := by decide +kernel
theorem dX10_hasWrong_1 : decode cX10_hasWrong 1 = .ok (.iconst 0, 1) := by decide +kernel
theorem dX10_hasWrong_2 : decode cX10_hasWrong 2 = .ok (.aload_n 0, 1) := by decide +kernel
theorem dX10_hasWrong_3 : decode cX10_hasWrong 3 = .ok (.getfield 59, 3) := by decide +kernel
theorem dX10_hasWrong_6 : decode cX10_hasWrong 6 = .ok (.iconst 1, 1) := by decide +kernel
theorem dX10_hasWrong_7 : decode cX10_hasWrong 7 = .ok (.isub, 1) := by decide +kernel
theorem dX10_hasWrong_8 : decode cX10_hasWrong 8 = .ok (.invokestatic 85, 3) := by decide +kernel
theorem dX10_hasWrong_11 : decode cX10_hasWrong 11 = .ok (.ireturn, 1) := by decide +kernel
theorem dX10_allWrongs_0 : decode cX10_allWrongs 0 = .ok (.iconst 1, 1) := by decide +kernel
theorem dX10_allWrongs_1 : decode cX10_allWrongs 1 = .ok (.aload_n 0, 1) := by decide +kernel
theorem dX10_allWrongs_2 : decode cX10_allWrongs 2 = .ok (.getfield 59, 3) := by decide +kernel
theorem dX10_allWrongs_5 : decode cX10_allWrongs 5 = .ok (.ishl, 1) := by decide +kernel
theorem dX10_allWrongs_6 : decode cX10_allWrongs 6 = .ok (.iconst 1, 1) := by decide +kernel
theorem dX10_allWrongs_7 : decode cX10_allWrongs 7 = .ok (.isub, 1) := by decide +kernel
theorem dX10_allWrongs_8 : decode cX10_allWrongs 8 = .ok (.ireturn, 1) := by decide +kernel
theorem dX10_addPerson_0 : decode cX10_addPerson 0 = .ok (.aload_n 0, 1) := by decide +kernel
theorem dX10_addPerson_1 : decode cX10_addPerson 1 = .ok (.getfield 9, 3) := by decide +kernel
theorem dX10_addPerson_4 : decode cX10_addPerson 4 = .ok (.aload_n 0, 1) := by decide +kernel
theorem dX10_addPerson_5 : decode cX10_addPerson 5 = .ok (.getfield 55, 3) := by decide +kernel
theorem dX10_addPerson_8 : decode cX10_addPerson 8 = .ok (.iload_n 1, 1) := by decide +kernel
theorem dX10_addPerson_9 : decode cX10_addPerson 9 = .ok (.iastore, 1) := by decide +kernel
theorem dX10_addPerson_10 : decode cX10_addPerson 10 = .ok (.aload_n 0, 1) := by decide +kernel
theorem dX10_addPerson_11 : decode cX10_addPerson 11 = .ok (.getfield 15, 3) := by decide +kernel
theorem dX10_addPerson_14 : decode cX10_addPerson 14 = .ok (.aload_n 0, 1) := by decide +kernel
theorem dX10_addPerson_15 : decode cX10_addPerson 15 = .ok (.getfield 55, 3) := by decide +kernel
theorem dX10_addPerson_18 : decode cX10_addPerson 18 = .ok (.iconst 0, 1) := by decide +kernel
theorem dX10_addPerson_19 : decode cX10_addPerson 19 = .ok (.iastore, 1) := by decide +kernel
theorem dX10_addPerson_20 : decode cX10_addPerson 20 = .ok (.aload_n 0, 1) := by decide +kernel
theorem dX10_addPerson_21 : decode cX10_addPerson 21 = .ok (.dup, 1) := by decide +kernel
theorem dX10_addPerson_22 : decode cX10_addPerson 22 = .ok (.getfield 55, 3) := by decide +kernel
theorem dX10_addPerson_25 : decode cX10_addPerson 25 = .ok (.iconst 1, 1) := by decide +kernel
theorem dX10_addPerson_26 : decode cX10_addPerson 26 = .ok (.iadd, 1) := by decide +kernel
theorem dX10_addPerson_27 : decode cX10_addPerson 27 = .ok (.putfield 55, 3) := by decide +kernel
theorem dX10_addPerson_30 : decode cX10_addPerson 30 = .ok (.aload_n 0, 1) := by decide +kernel
theorem dX10_addPerson_31 : decode cX10_addPerson 31 = .ok (.getfield 55, 3) := by decide +kernel
theorem dX10_addPerson_34 : decode cX10_addPerson 34 = .ok (.iconst 1, 1) := by decide +kernel
theorem dX10_addPerson_35 : decode cX10_addPerson 35 = .ok (.isub, 1) := by decide +kernel
theorem dX10_addPerson_36 : decode cX10_addPerson 36 = .ok (.ireturn, 1) := by decide +kernel
theorem dX10_addWrong_0 : decode cX10_addWrong 0 = .ok (.aload_n 0, 1) := by decide +kernel
theorem dX10_addWrong_1 : decode cX10_addWrong 1 = .ok (.getfield 18, 3) := by decide +kernel
theorem dX10_addWrong_4 : decode cX10_addWrong 4 = .ok (.aload_n 0, 1) := by decide +kernel
theorem dX10_addWrong_5 : decode cX10_addWrong 5 = .ok (.getfield 59, 3) := by decide +kernel
theorem dX10_addWrong_8 : decode cX10_addWrong 8 = .ok (.iload_n 1, 1) := by decide +kernel
theorem dX10_addWrong_9 : decode cX10_addWrong 9 = .ok (.iastore, 1) := by decide +kernel
theorem dX10_addWrong_10 : decode cX10_addWrong 10 = .ok (.aload_n 0, 1) := by decide +kernel
theorem dX10_addWrong_11 : decode cX10_addWrong 11 = .ok (.getfield 21, 3) := by decide +kernel
theorem dX10_addWrong_14 : decode cX10_addWrong 14 = .ok (.aload_n 0, 1) := by decide +kernel
theorem dX10_addWrong_15 : decode cX10_addWrong 15 = .ok (.getfield 59, 3) := by decide +kernel
theorem dX10_addWrong_18 : decode cX10_addWrong 18 = .ok (.iload_n 2, 1) := by decide +kernel
theorem dX10_addWrong_19 : decode cX10_addWrong 19 = .ok (.iastore, 1) := by decide +kernel
theorem dX10_addWrong_20 : decode cX10_addWrong 20 = .ok (.aload_n 0, 1) := by decide +kernel
theorem dX10_addWrong_21 : decode cX10_addWrong 21 = .ok (.getfield 24, 3) := by decide +kernel
theorem dX10_addWrong_24 : decode cX10_addWrong 24 = .ok (.aload_n 0, 1) := by decide +kernel
theorem dX10_addWrong_25 : decode cX10_addWrong 25 = .ok (.getfield 59, 3) := by decide +kernel
theorem dX10_addWrong_28 : decode cX10_addWrong 28 = .ok (.iload_n 3, 1) := by decide +kernel
theorem dX10_addWrong_29 : decode cX10_addWrong 29 = .ok (.iastore, 1) := by decide +kernel
theorem dX10_addWrong_30 : decode cX10_addWrong 30 = .ok (.aload_n 0, 1) := by decide +kernel
theorem dX10_addWrong_31 : decode cX10_addWrong 31 = .ok (.getfield 27, 3) := by decide +kernel
theorem dX10_addWrong_34 : decode cX10_addWrong 34 = .ok (.aload_n 0, 1) := by decide +kernel
theorem dX10_addWrong_35 : decode cX10_addWrong 35 = .ok (.getfield 59, 3) := by decide +kernel
theorem dX10_addWrong_38 : decode cX10_addWrong 38 = .ok (.iload 4, 2) := by decide +kernel
theorem dX10_addWrong_40 : decode cX10_addWrong 40 = .ok (.iastore, 1) := by decide +kernel
theorem dX10_addWrong_41 : decode cX10_addWrong 41 = .ok (.aload_n 0, 1) := by decide +kernel
theorem dX10_addWrong_42 : decode cX10_addWrong 42 = .ok (.getfield 30, 3) := by decide +kernel
theorem dX10_addWrong_45 : decode cX10_addWrong 45 = .ok (.aload_n 0, 1) := by decide +kernel
theorem dX10_addWrong_46 : decode cX10_addWrong 46 = .ok (.getfield 59, 3) := by decide +kernel
theorem dX10_addWrong_49 : decode cX10_addWrong 49 = .ok (.iconst 0, 1) := by decide +kernel
theorem dX10_addWrong_50 : decode cX10_addWrong 50 = .ok (.iastore, 1) := by decide +kernel
theorem dX10_addWrong_51 : decode cX10_addWrong 51 = .ok (.aload_n 0, 1) := by decide +kernel
theorem dX10_addWrong_52 : decode cX10_addWrong 52 = .ok (.dup, 1) := by decide +kernel
theorem dX10_addWrong_53 : decode cX10_addWrong 53 = .ok (.getfield 59, 3) := by decide +kernel
theorem dX10_addWrong_56 : decode cX10_addWrong 56 = .ok (.iconst 1, 1) := by decide +kernel
theorem dX10_addWrong_57 : decode cX10_addWrong 57 = .ok (.iadd, 1) := by decide +kernel
theorem dX10_addWrong_58 : decode cX10_addWrong 58 = .ok (.putfield 59, 3) := by decide +kernel
theorem dX10_addWrong_61 : decode cX10_addWrong 61 = .ok (.aload_n 0, 1) := by decide +kernel
theorem dX10_addWrong_62 : decode cX10_addWrong 62 = .ok (.getfield 59, 3) := by decide +kernel
theorem dX10_addWrong_65 : decode cX10_addWrong 65 = .ok (.iconst 1, 1) := by decide +kernel
theorem dX10_addWrong_66 : decode cX10_addWrong 66 = .ok (.isub, 1) := by decide +kernel
theorem dX10_addWrong_67 : decode cX10_addWrong 67 = .ok (.ireturn, 1) := by decide +kernel
set_option maxRecDepth 20000 in
theorem ggX10_pass_X11_holds : GoodIn wsX10_pass wsX11_holds := goodIn_r _ [11] (by decide +kernel) (by decide +kernel)
set_option maxRecDepth 20000 in
theorem gX10_pass_X11_holds_n95 : GoodIn wsX10_pass (wsX11_holds) := ggX10_pass_X11_holds
set_option maxRecDepth 20000 in
theorem ggX10_pass_X10_ageIn : GoodIn wsX10_pass wsX10_ageIn := goodIn_r _ [16, 8, 2, 3, 4, 5, 17, 18, 19, 20, 21, 22, 23, 24, 25, 26, 27, 28, 29, 30, 31] (by decide +kernel) (by decide +kernel)
set_option maxRecDepth 20000 in
theorem gX10_pass_X10_ageIn : GoodIn wsX10_pass (wsV RX10 99 RX10 yX10_ageIn wsX10_ageIn) := goodIn_app (goodIn_of _ (by decide +kernel)) ggX10_pass_X10_ageIn
theorem dX10_pass_0 : decode cX10_pass 0 = .ok (.iload_n 1, 1) := by decide +kernel
theorem dX10_pass_1 : decode cX10_pass 1 = .ok (.sipush 999, 3) := by decide +kernel
theorem dX10_pass_4 : decode cX10_pass 4 = .ok (.aload_n 0, 1) := by decide +kernel
theorem dX10_pass_5 : decode cX10_pass 5 = .ok (.getfield 65, 3) := by decide +kernel
theorem dX10_pass_8 : decode cX10_pass 8 = .ok (.isub, 1) := by decide +kernel
theorem dX10_pass_9 : decode cX10_pass 9 = .ok (.invokestatic 89, 3) := by decide +kernel
theorem dX10_pass_12 : decode cX10_pass 12 = .ok (.istore_n 2, 1) := by decide +kernel
theorem dX10_pass_13 : decode cX10_pass 13 = .ok (.iconst 0, 1) := by decide +kernel
theorem dX10_pass_14 : decode cX10_pass 14 = .ok (.istore_n 3, 1) := by decide +kernel
theorem dX10_pass_15 : decode cX10_pass 15 = .ok (.iload_n 3, 1) := by decide +kernel
theorem dX10_pass_16 : decode cX10_pass 16 = .ok (.aload_n 0, 1) := by decide +kernel
theorem dX10_pass_17 : decode cX10_pass 17 = .ok (.getfield 59, 3) := by decide +kernel
theorem dX10_pass_20 : decode cX10_pass 20 = .ok (.if_icmp .ge 32, 3) := by decide +kernel
theorem dX10_pass_23 : decode cX10_pass 23 = .ok (.aload_n 0, 1) := by decide +kernel
theorem dX10_pass_24 : decode cX10_pass 24 = .ok (.getfield 62, 3) := by decide +kernel
theorem dX10_pass_27 : decode cX10_pass 27 = .ok (.iload_n 3, 1) := by decide +kernel
theorem dX10_pass_28 : decode cX10_pass 28 = .ok (.invokestatic 95, 3) := by decide +kernel
theorem dX10_pass_31 : decode cX10_pass 31 = .ok (.ifCond .ne 15, 3) := by decide +kernel
theorem dX10_pass_34 : decode cX10_pass 34 = .ok (.aload_n 0, 1) := by decide +kernel
theorem dX10_pass_35 : decode cX10_pass 35 = .ok (.getfield 30, 3) := by decide +kernel
theorem dX10_pass_38 : decode cX10_pass 38 = .ok (.iload_n 3, 1) := by decide +kernel
theorem dX10_pass_39 : decode cX10_pass 39 = .ok (.aload_n 0, 1) := by decide +kernel
theorem dX10_pass_40 : decode cX10_pass 40 = .ok (.iload_n 3, 1) := by decide +kernel
theorem dX10_pass_41 : decode cX10_pass 41 = .ok (.iload_n 2, 1) := by decide +kernel
theorem dX10_pass_42 : decode cX10_pass 42 = .ok (.invokevirtual 99, 3) := by decide +kernel
theorem dX10_pass_45 : decode cX10_pass 45 = .ok (.iastore, 1) := by decide +kernel
theorem dX10_pass_46 : decode cX10_pass 46 = .ok (.iinc 3 1, 3) := by decide +kernel
theorem dX10_pass_49 : decode cX10_pass 49 = .ok (.goto (-34), 3) := by decide +kernel
theorem dX10_pass_52 : decode cX10_pass 52 = .ok (.aload_n 0, 1) := by decide +kernel
theorem dX10_pass_53 : decode cX10_pass 53 = .ok (.dup, 1) := by decide +kernel
theorem dX10_pass_54 : decode cX10_pass 54 = .ok (.getfield 65, 3) := by decide +kernel
theorem dX10_pass_57 : decode cX10_pass 57 = .ok (.iload_n 2, 1) := by decide +kernel
theorem dX10_pass_58 : decode cX10_pass 58 = .ok (.iadd, 1) := by decide +kernel
theorem dX10_pass_59 : decode cX10_pass 59 = .ok (.putfield 65, 3) := by decide +kernel
theorem dX10_pass_62 : decode cX10_pass 62 = .ok (.return_, 1) := by decide +kernel
theorem dX10_stroke_0 : decode cX10_stroke 0 = .ok (.aload_n 0, 1) := by decide +kernel
theorem dX10_stroke_1 : decode cX10_stroke 1 = .ok (.getfield 21, 3) := by decide +kernel
theorem dX10_stroke_4 : decode cX10_stroke 4 = .ok (.iload_n 1, 1) := by decide +kernel
theorem dX10_stroke_5 : decode cX10_stroke 5 = .ok (.iaload, 1) := by decide +kernel
theorem dX10_stroke_6 : decode cX10_stroke 6 = .ok (.istore_n 2, 1) := by decide +kernel
theorem dX10_stroke_7 : decode cX10_stroke 7 = .ok (.aload_n 0, 1) := by decide +kernel
theorem dX10_stroke_8 : decode cX10_stroke 8 = .ok (.dup, 1) := by decide +kernel
theorem dX10_stroke_9 : decode cX10_stroke 9 = .ok (.getfield 62, 3) := by decide +kernel
theorem dX10_stroke_12 : decode cX10_stroke 12 = .ok (.iconst 1, 1) := by decide +kernel
theorem dX10_stroke_13 : decode cX10_stroke 13 = .ok (.iload_n 1, 1) := by decide +kernel
theorem dX10_stroke_14 : decode cX10_stroke 14 = .ok (.ishl, 1) := by decide +kernel
theorem dX10_stroke_15 : decode cX10_stroke 15 = .ok (.ior, 1) := by decide +kernel
theorem dX10_stroke_16 : decode cX10_stroke 16 = .ok (.putfield 62, 3) := by decide +kernel
theorem dX10_stroke_19 : decode cX10_stroke 19 = .ok (.aload_n 0, 1) := by decide +kernel
theorem dX10_stroke_20 : decode cX10_stroke 20 = .ok (.getfield 15, 3) := by decide +kernel
theorem dX10_stroke_23 : decode cX10_stroke 23 = .ok (.iload_n 2, 1) := by decide +kernel
theorem dX10_stroke_24 : decode cX10_stroke 24 = .ok (.dup2, 1) := by decide +kernel
theorem dX10_stroke_25 : decode cX10_stroke 25 = .ok (.iaload, 1) := by decide +kernel
theorem dX10_stroke_26 : decode cX10_stroke 26 = .ok (.iconst 1, 1) := by decide +kernel
theorem dX10_stroke_27 : decode cX10_stroke 27 = .ok (.iadd, 1) := by decide +kernel
theorem dX10_stroke_28 : decode cX10_stroke 28 = .ok (.iastore, 1) := by decide +kernel
theorem dX10_stroke_29 : decode cX10_stroke 29 = .ok (.aload_n 0, 1) := by decide +kernel
theorem dX10_stroke_30 : decode cX10_stroke 30 = .ok (.getfield 15, 3) := by decide +kernel
theorem dX10_stroke_33 : decode cX10_stroke 33 = .ok (.iload_n 2, 1) := by decide +kernel
theorem dX10_stroke_34 : decode cX10_stroke 34 = .ok (.iaload, 1) := by decide +kernel
theorem dX10_stroke_35 : decode cX10_stroke 35 = .ok (.ireturn, 1) := by decide +kernel
set_option maxRecDepth 20000 in
theorem ggX10_remember_X4_push : GoodIn wsX10_remember wsX4_push := goodIn_r _ [6, 7, 8, 9, 10, 11, 12, 13, 14, 15, 16, 32, 33, 17, 18, 19, 20, 21, 22, 23, 24, 25, 26, 27, 28, 29, 30, 31] (by decide +kernel) (by decide +kernel)
set_option maxRecDepth 20000 in
theorem gX10_remember_X4_push : GoodIn wsX10_remember (wsV RX10 102 RX4 yX4_push wsX4_push) := goodIn_app (goodIn_of _ (by decide +kernel)) ggX10_remember_X4_push
theorem dX10_remember_0 : decode cX10_remember 0 = .ok (.aload_n 0, 1) := by decide +kernel
theorem dX10_remember_1 : decode cX10_remember 1 = .ok (.getfield 51, 3) := by decide +kernel
theorem dX10_remember_4 : decode cX10_remember 4 = .ok (.aload_n 0, 1) := by decide +kernel
theorem dX10_remember_5 : decode cX10_remember 5 = .ok (.invokevirtual 102, 3) := by decide +kernel
theorem dX10_remember_8 : decode cX10_remember 8 = .ok (.return_, 1) := by decide +kernel
set_option maxRecDepth 20000 in
theorem ggX10_goBack_X4_pop : GoodIn wsX10_goBack wsX4_pop := goodIn_r _ [6, 7, 8, 9, 10, 11, 12, 13, 14, 15, 16, 32, 33, 17, 18, 19, 20, 21, 22, 23, 24, 25, 26, 27, 28, 29, 30, 31] (by decide +kernel) (by decide +kernel)
set_option maxRecDepth 20000 in
theorem gX10_goBack_X4_pop : GoodIn wsX10_goBack (wsV RX10 106 RX4 yX4_pop wsX4_pop) := goodIn_app (goodIn_of _ (by decide +kernel)) ggX10_goBack_X4_pop
theorem dX10_goBack_0 : decode cX10_goBack 0 = .ok (.aload_n 0, 1) := by decide +kernel
theorem dX10_goBack_1 : decode cX10_goBack 1 = .ok (.getfield 51, 3) := by decide +kernel
theorem dX10_goBack_4 : decode cX10_goBack 4 = .ok (.aload_n 0, 1) := by decide +kernel
theorem dX10_goBack_5 : decode cX10_goBack 5 = .ok (.invokevirtual 106, 3) := by decide +kernel
theorem dX10_goBack_8 : decode cX10_goBack 8 = .ok (.return_, 1) := by decide +kernel
theorem dX10_ageIn_0 : decode cX10_ageIn 0 = .ok (.bipush 99, 2) := by decide +kernel
theorem dX10_ageIn_2 : decode cX10_ageIn 2 = .ok (.aload_n 0, 1) := by decide +kernel
theorem dX10_ageIn_3 : decode cX10_ageIn 3 = .ok (.getfield 30, 3) := by decide +kernel
theorem dX10_ageIn_6 : decode cX10_ageIn 6 = .ok (.iload_n 1, 1) := by decide +kernel
theorem dX10_ageIn_7 : decode cX10_ageIn 7 = .ok (.iaload, 1) := by decide +kernel
theorem dX10_ageIn_8 : decode cX10_ageIn 8 = .ok (.iload_n 2, 1) := by decide +kernel
theorem dX10_ageIn_9 : decode cX10_ageIn 9 = .ok (.iadd, 1) := by decide +kernel
theorem dX10_ageIn_10 : decode cX10_ageIn 10 = .ok (.invokestatic 89, 3) := by decide +kernel
theorem dX10_ageIn_13 : decode cX10_ageIn 13 = .ok (.ireturn, 1) := by decide +kernel
set_option maxRecDepth 20000 in
theorem ggX10_weight_X10_ageIn : GoodIn wsX10_weight wsX10_ageIn := goodIn_r _ [7, 8, 9, 10, 11, 12, 21, 22, 23, 24, 25, 26, 27, 28, 29, 30, 31, 32, 33, 34, 35] (by decide +kernel) (by decide +kernel)
set_option maxRecDepth 20000 in
theorem gX10_weight_X10_ageIn : GoodIn wsX10_weight (wsV RX10 99 RX10 yX10_ageIn wsX10_ageIn) := goodIn_app (goodIn_of _ (by decide +kernel)) ggX10_weight_X10_ageIn
set_option maxRecDepth 20000 in
theorem ggX10_weight_X2_weight : GoodIn wsX10_weight wsX2_weight := goodIn_r _ [16, 17, 18, 11, 19, 20, 10, 12] (by decide +kernel) (by decide +kernel)
set_option maxRecDepth 20000 in
theorem gX10_weight_X2_weight : GoodIn wsX10_weight (va_wsS RX10 109 yX2_weight wsX2_weight) := goodIn_app (goodIn_of _ (by decide +kernel)) ggX10_weight_X2_weight
theorem dX10_weight_0 : decode cX10_weight 0 = .ok (.aload_n 0, 1) := by decide +kernel
theorem dX10_weight_1 : decode cX10_weight 1 = .ok (.getfield 18, 3) := by decide +kernel
theorem dX10_weight_4 : decode cX10_weight 4 = .ok (.iload_n 1, 1) := by decide +kernel
theorem dX10_weight_5 : decode cX10_weight 5 = .ok (.iaload, 1) := by decide +kernel
theorem dX10_weight_6 : decode cX10_weight 6 = .ok (.aload_n 0, 1) := by decide +kernel
theorem dX10_weight_7 : decode cX10_weight 7 = .ok (.getfield 27, 3) := by decide +kernel
theorem dX10_weight_10 : decode cX10_weight 10 = .ok (.iload_n 1, 1) := by decide +kernel
theorem dX10_weight_11 : decode cX10_weight 11 = .ok (.iaload, 1) := by decide +kernel
theorem dX10_weight_12 : decode cX10_weight 12 = .ok (.aload_n 0, 1) := by decide +kernel
theorem dX10_weight_13 : decode cX10_weight 13 = .ok (.iload_n 1, 1) := by decide +kernel
theorem dX10_weight_14 : decode cX10_weight 14 = .ok (.iload_n 2, 1) := by decide +kernel
theorem dX10_weight_15 : decode cX10_weight 15 = .ok (.invokevirtual 99, 3) := by decide +kernel
theorem dX10_weight_18 : decode cX10_weight 18 = .ok (.invokestatic 109, 3) := by decide +kernel
theorem dX10_weight_21 : decode cX10_weight 21 = .ok (.ireturn, 1) := by decide +kernel
set_option maxRecDepth 20000 in
theorem ggX10_mercy_X11_holds : GoodIn wsX10_mercy wsX11_holds := goodIn_r _ [8] (by decide +kernel) (by decide +kernel)
set_option maxRecDepth 20000 in
theorem gX10_mercy_X11_holds_n95 : GoodIn wsX10_mercy (wsX11_holds) := ggX10_mercy_X11_holds
set_option maxRecDepth 20000 in
theorem ggX10_mercy_X2_mercy : GoodIn wsX10_mercy wsX2_mercy := goodIn_r _ [12, 13, 14, 15, 16] (by decide +kernel) (by decide +kernel)
set_option maxRecDepth 20000 in
theorem gX10_mercy_X2_mercy : GoodIn wsX10_mercy (va_wsS RX10 115 yX2_mercy wsX2_mercy) := goodIn_app (goodIn_of _ (by decide +kernel)) ggX10_mercy_X2_mercy
theorem dX10_mercy_0 : decode cX10_mercy 0 = .ok (.aload_n 0, 1) := by decide +kernel
theorem dX10_mercy_1 : decode cX10_mercy 1 = .ok (.getfield 15, 3) := by decide +kernel
theorem dX10_mercy_4 : decode cX10_mercy 4 = .ok (.iload_n 1, 1) := by decide +kernel
theorem dX10_mercy_5 : decode cX10_mercy 5 = .ok (.iaload, 1) := by decide +kernel
theorem dX10_mercy_6 : decode cX10_mercy 6 = .ok (.istore 4, 2) := by decide +kernel
theorem dX10_mercy_8 : decode cX10_mercy 8 = .ok (.iconst 0, 1) := by decide +kernel
theorem dX10_mercy_9 : decode cX10_mercy 9 = .ok (.istore 5, 2) := by decide +kernel
theorem dX10_mercy_11 : decode cX10_mercy 11 = .ok (.iload 5, 2) := by decide +kernel
theorem dX10_mercy_13 : decode cX10_mercy 13 = .ok (.aload_n 0, 1) := by decide +kernel
theorem dX10_mercy_14 : decode cX10_mercy 14 = .ok (.getfield 59, 3) := by decide +kernel
theorem dX10_mercy_17 : decode cX10_mercy 17 = .ok (.if_icmp .ge 32, 3) := by decide +kernel
theorem dX10_mercy_20 : decode cX10_mercy 20 = .ok (.iload_n 2, 1) := by decide +kernel
theorem dX10_mercy_21 : decode cX10_mercy 21 = .ok (.iload 5, 2) := by decide +kernel
theorem dX10_mercy_23 : decode cX10_mercy 23 = .ok (.invokestatic 95, 3) := by decide +kernel
theorem dX10_mercy_26 : decode cX10_mercy 26 = .ok (.ifCond .eq 17, 3) := by decide +kernel
theorem dX10_mercy_29 : decode cX10_mercy 29 = .ok (.aload_n 0, 1) := by decide +kernel
theorem dX10_mercy_30 : decode cX10_mercy 30 = .ok (.getfield 21, 3) := by decide +kernel
theorem dX10_mercy_33 : decode cX10_mercy 33 = .ok (.iload 5, 2) := by decide +kernel
theorem dX10_mercy_35 : decode cX10_mercy 35 = .ok (.iaload, 1) := by decide +kernel
theorem dX10_mercy_36 : decode cX10_mercy 36 = .ok (.iload_n 1, 1) := by decide +kernel
theorem dX10_mercy_37 : decode cX10_mercy 37 = .ok (.if_icmp .ne 6, 3) := by decide +kernel
theorem dX10_mercy_40 : decode cX10_mercy 40 = .ok (.iinc 4 1, 3) := by decide +kernel
theorem dX10_mercy_43 : decode cX10_mercy 43 = .ok (.iinc 5 1, 3) := by decide +kernel
theorem dX10_mercy_46 : decode cX10_mercy 46 = .ok (.goto (-35), 3) := by decide +kernel
theorem dX10_mercy_49 : decode cX10_mercy 49 = .ok (.aload_n 0, 1) := by decide +kernel
theorem dX10_mercy_50 : decode cX10_mercy 50 = .ok (.getfield 9, 3) := by decide +kernel
theorem dX10_mercy_53 : decode cX10_mercy 53 = .ok (.iload_n 1, 1) := by decide +kernel
theorem dX10_mercy_54 : decode cX10_mercy 54 = .ok (.iaload, 1) := by decide +kernel
theorem dX10_mercy_55 : decode cX10_mercy 55 = .ok (.iload 4, 2) := by decide +kernel
theorem dX10_mercy_57 : decode cX10_mercy 57 = .ok (.aload_n 0, 1) := by decide +kernel
theorem dX10_mercy_58 : decode cX10_mercy 58 = .ok (.getfield 65, 3) := by decide +kernel
theorem dX10_mercy_61 : decode cX10_mercy 61 = .ok (.iload_n 3, 1) := by decide +kernel
theorem dX10_mercy_62 : decode cX10_mercy 62 = .ok (.iadd, 1) := by decide +kernel
theorem dX10_mercy_63 : decode cX10_mercy 63 = .ok (.invokestatic 115, 3) := by decide +kernel
theorem dX10_mercy_66 : decode cX10_mercy 66 = .ok (.ireturn, 1) := by decide +kernel
set_option maxRecDepth 20000 in
theorem ggX10_could_X11_holds : GoodIn wsX10_could wsX11_holds := goodIn_r _ [5] (by decide +kernel) (by decide +kernel)
set_option maxRecDepth 20000 in
theorem gX10_could_X11_holds_n95 : GoodIn wsX10_could (wsX11_holds) := ggX10_could_X11_holds
set_option maxRecDepth 20000 in
theorem ggX10_could_X10_weight : GoodIn wsX10_could wsX10_weight := goodIn_r _ [10, 11, 12, 13, 14, 15, 9, 16, 17, 18, 19, 20, 21, 22, 23, 24, 25, 26, 27, 28, 29, 42, 43, 44, 45, 46, 47, 48, 49, 50, 51, 52, 53, 54, 55, 56] (by decide +kernel) (by decide +kernel)
set_option maxRecDepth 20000 in
theorem gX10_could_X10_weight : GoodIn wsX10_could (wsV RX10 118 RX10 yX10_weight wsX10_weight) := goodIn_app (goodIn_of _ (by decide +kernel)) ggX10_could_X10_weight
set_option maxRecDepth 20000 in
theorem ggX10_could_X10_mercy : GoodIn wsX10_could wsX10_mercy := goodIn_r _ [33, 34, 35, 36, 37, 38, 3, 4, 5, 39, 40, 24, 41, 29, 19, 20, 21, 42, 43, 44, 45, 46, 47, 48, 49, 50, 51, 52, 53, 54, 55, 56] (by decide +kernel) (by decide +kernel)
set_option maxRecDepth 20000 in
theorem gX10_could_X10_mercy : GoodIn wsX10_could (wsV RX10 120 RX10 yX10_mercy wsX10_mercy) := goodIn_app (goodIn_of _ (by decide +kernel)) ggX10_could_X10_mercy
theorem dX10_could_0 : decode cX10_could 0 = .ok (.aload_n 0, 1) := by decide +kernel
theorem dX10_could_1 : decode cX10_could 1 = .ok (.getfield 62, 3) := by decide +kernel
theorem dX10_could_4 : decode cX10_could 4 = .ok (.iload_n 2, 1) := by decide +kernel
theorem dX10_could_5 : decode cX10_could 5 = .ok (.ior, 1) := by decide +kernel
theorem dX10_could_6 : decode cX10_could 6 = .ok (.iload_n 1, 1) := by decide +kernel
theorem dX10_could_7 : decode cX10_could 7 = .ok (.invokestatic 95, 3) := by decide +kernel
theorem dX10_could_10 : decode cX10_could 10 = .ok (.ifCond .ne 30, 3) := by decide +kernel
theorem dX10_could_13 : decode cX10_could 13 = .ok (.aload_n 0, 1) := by decide +kernel
theorem dX10_could_14 : decode cX10_could 14 = .ok (.iload_n 1, 1) := by decide +kernel
theorem dX10_could_15 : decode cX10_could 15 = .ok (.iload 4, 2) := by decide +kernel
theorem dX10_could_17 : decode cX10_could 17 = .ok (.invokevirtual 118, 3) := by decide +kernel
theorem dX10_could_20 : decode cX10_could 20 = .ok (.aload_n 0, 1) := by decide +kernel
theorem dX10_could_21 : decode cX10_could 21 = .ok (.aload_n 0, 1) := by decide +kernel
theorem dX10_could_22 : decode cX10_could 22 = .ok (.getfield 24, 3) := by decide +kernel
theorem dX10_could_25 : decode cX10_could 25 = .ok (.iload_n 1, 1) := by decide +kernel
theorem dX10_could_26 : decode cX10_could 26 = .ok (.iaload, 1) := by decide +kernel
theorem dX10_could_27 : decode cX10_could 27 = .ok (.iload_n 3, 1) := by decide +kernel
theorem dX10_could_28 : decode cX10_could 28 = .ok (.iload 4, 2) := by decide +kernel
theorem dX10_could_30 : decode cX10_could 30 = .ok (.invokevirtual 120, 3) := by decide +kernel
theorem dX10_could_33 : decode cX10_could 33 = .ok (.if_icmp .gt 7, 3) := by decide +kernel
theorem dX10_could_36 : decode cX10_could 36 = .ok (.iconst 1, 1) := by decide +kernel
theorem dX10_could_37 : decode cX10_could 37 = .ok (.goto 4, 3) := by decide +kernel
theorem dX10_could_40 : decode cX10_could 40 = .ok (.iconst 0, 1) := by decide +kernel
theorem dX10_could_41 : decode cX10_could 41 = .ok (.ireturn, 1) := by decide +kernel
set_option maxRecDepth 20000 in
theorem ggX10_isGuilty_X11_holds : GoodIn wsX10_isGuilty wsX11_holds := goodIn_r _ [6] (by decide +kernel) (by decide +kernel)
set_option maxRecDepth 20000 in
theorem gX10_isGuilty_X11_holds_n95 : GoodIn wsX10_isGuilty (wsX11_holds) := ggX10_isGuilty_X11_holds
theorem dX10_isGuilty_0 : decode cX10_isGuilty 0 = .ok (.iconst 0, 1) := by decide +kernel
theorem dX10_isGuilty_1 : decode cX10_isGuilty 1 = .ok (.istore_n 2, 1) := by decide +kernel
theorem dX10_isGuilty_2 : decode cX10_isGuilty 2 = .ok (.iload_n 2, 1) := by decide +kernel
theorem dX10_isGuilty_3 : decode cX10_isGuilty 3 = .ok (.aload_n 0, 1) := by decide +kernel
theorem dX10_isGuilty_4 : decode cX10_isGuilty 4 = .ok (.getfield 59, 3) := by decide +kernel
theorem dX10_isGuilty_7 : decode cX10_isGuilty 7 = .ok (.if_icmp .ge 32, 3) := by decide +kernel
theorem dX10_isGuilty_10 : decode cX10_isGuilty 10 = .ok (.aload_n 0, 1) := by decide +kernel
theorem dX10_isGuilty_11 : decode cX10_isGuilty 11 = .ok (.getfield 21, 3) := by decide +kernel
theorem dX10_isGuilty_14 : decode cX10_isGuilty 14 = .ok (.iload_n 2, 1) := by decide +kernel
theorem dX10_isGuilty_15 : decode cX10_isGuilty 15 = .ok (.iaload, 1) := by decide +kernel
theorem dX10_isGuilty_16 : decode cX10_isGuilty 16 = .ok (.iload_n 1, 1) := by decide +kernel
theorem dX10_isGuilty_17 : decode cX10_isGuilty 17 = .ok (.if_icmp .ne 16, 3) := by decide +kernel
theorem dX10_isGuilty_20 : decode cX10_isGuilty 20 = .ok (.aload_n 0, 1) := by decide +kernel
theorem dX10_isGuilty_21 : decode cX10_isGuilty 21 = .ok (.getfield 62, 3) := by decide +kernel
theorem dX10_isGuilty_24 : decode cX10_isGuilty 24 = .ok (.iload_n 2, 1) := by decide +kernel
theorem dX10_isGuilty_25 : decode cX10_isGuilty 25 = .ok (.invokestatic 95, 3) := by decide +kernel
theorem dX10_isGuilty_28 : decode cX10_isGuilty 28 = .ok (.ifCond .ne 5, 3) := by decide +kernel
theorem dX10_isGuilty_31 : decode cX10_isGuilty 31 = .ok (.iconst 1, 1) := by decide +kernel
theorem dX10_isGuilty_32 : decode cX10_isGuilty 32 = .ok (.ireturn, 1) := by decide +kernel
theorem dX10_isGuilty_33 : decode cX10_isGuilty 33 = .ok (.iinc 2 1, 3) := by decide +kernel
theorem dX10_isGuilty_36 : decode cX10_isGuilty 36 = .ok (.goto (-34), 3) := by decide +kernel
theorem dX10_isGuilty_39 : decode cX10_isGuilty 39 = .ok (.iconst 0, 1) := by decide +kernel
theorem dX10_isGuilty_40 : decode cX10_isGuilty 40 = .ok (.ireturn, 1) := by decide +kernel
set_option maxRecDepth 20000 in
theorem ggX10_guilty_X10_isGuilty : GoodIn wsX10_guilty wsX10_isGuilty := goodIn_r _ [6, 7, 8, 9, 10, 11, 12, 13, 14, 15, 16, 17, 18, 19, 20, 21, 22, 23, 24, 25, 26, 27] (by decide +kernel) (by decide +kernel)
set_option maxRecDepth 20000 in
theorem gX10_guilty_X10_isGuilty : GoodIn wsX10_guilty (wsV RX10 121 RX10 yX10_isGuilty wsX10_isGuilty) := goodIn_app (goodIn_of _ (by decide +kernel)) ggX10_guilty_X10_isGuilty
theorem dX10_guilty_0 : decode cX10_guilty 0 = .ok (.iconst 0, 1) := by decide +kernel
theorem dX10_guilty_1 : decode cX10_guilty 1 = .ok (.istore_n 1, 1) := by decide +kernel
theorem dX10_guilty_2 : decode cX10_guilty 2 = .ok (.iconst 0, 1) := by decide +kernel
theorem dX10_guilty_3 : decode cX10_guilty 3 = .ok (.istore_n 2, 1) := by decide +kernel
theorem dX10_guilty_4 : decode cX10_guilty 4 = .ok (.iload_n 2, 1) := by decide +kernel
theorem dX10_guilty_5 : decode cX10_guilty 5 = .ok (.aload_n 0, 1) := by decide +kernel
theorem dX10_guilty_6 : decode cX10_guilty 6 = .ok (.getfield 55, 3) := by decide +kernel
theorem dX10_guilty_9 : decode cX10_guilty 9 = .ok (.if_icmp .ge 20, 3) := by decide +kernel
theorem dX10_guilty_12 : decode cX10_guilty 12 = .ok (.aload_n 0, 1) := by decide +kernel
theorem dX10_guilty_13 : decode cX10_guilty 13 = .ok (.iload_n 2, 1) := by decide +kernel
theorem dX10_guilty_14 : decode cX10_guilty 14 = .ok (.invokevirtual 121, 3) := by decide +kernel
theorem dX10_guilty_17 : decode cX10_guilty 17 = .ok (.ifCond .eq 6, 3) := by decide +kernel
theorem dX10_guilty_20 : decode cX10_guilty 20 = .ok (.iinc 1 1, 3) := by decide +kernel
theorem dX10_guilty_23 : decode cX10_guilty 23 = .ok (.iinc 2 1, 3) := by decide +kernel
theorem dX10_guilty_26 : decode cX10_guilty 26 = .ok (.goto (-22), 3) := by decide +kernel
theorem dX10_guilty_29 : decode cX10_guilty 29 = .ok (.iload_n 1, 1) := by decide +kernel
theorem dX10_guilty_30 : decode cX10_guilty 30 = .ok (.ireturn, 1) := by decide +kernel
theorem dX10_strokes_0 : decode cX10_strokes 0 = .ok (.iconst 0, 1) := by decide +kernel
theorem dX10_strokes_1 : decode cX10_strokes 1 = .ok (.istore_n 1, 1) := by decide +kernel
theorem dX10_strokes_2 : decode cX10_strokes 2 = .ok (.iconst 0, 1) := by decide +kernel
theorem dX10_strokes_3 : decode cX10_strokes 3 = .ok (.istore_n 2, 1) := by decide +kernel
theorem dX10_strokes_4 : decode cX10_strokes 4 = .ok (.iload_n 2, 1) := by decide +kernel
theorem dX10_strokes_5 : decode cX10_strokes 5 = .ok (.aload_n 0, 1) := by decide +kernel
theorem dX10_strokes_6 : decode cX10_strokes 6 = .ok (.getfield 55, 3) := by decide +kernel
theorem dX10_strokes_9 : decode cX10_strokes 9 = .ok (.if_icmp .ge 18, 3) := by decide +kernel
theorem dX10_strokes_12 : decode cX10_strokes 12 = .ok (.iload_n 1, 1) := by decide +kernel
theorem dX10_strokes_13 : decode cX10_strokes 13 = .ok (.aload_n 0, 1) := by decide +kernel
theorem dX10_strokes_14 : decode cX10_strokes 14 = .ok (.getfield 15, 3) := by decide +kernel
theorem dX10_strokes_17 : decode cX10_strokes 17 = .ok (.iload_n 2, 1) := by decide +kernel
theorem dX10_strokes_18 : decode cX10_strokes 18 = .ok (.iaload, 1) := by decide +kernel
theorem dX10_strokes_19 : decode cX10_strokes 19 = .ok (.iadd, 1) := by decide +kernel
theorem dX10_strokes_20 : decode cX10_strokes 20 = .ok (.istore_n 1, 1) := by decide +kernel
theorem dX10_strokes_21 : decode cX10_strokes 21 = .ok (.iinc 2 1, 3) := by decide +kernel
theorem dX10_strokes_24 : decode cX10_strokes 24 = .ok (.goto (-20), 3) := by decide +kernel
theorem dX10_strokes_27 : decode cX10_strokes 27 = .ok (.iload_n 1, 1) := by decide +kernel
theorem dX10_strokes_28 : decode cX10_strokes 28 = .ok (.ireturn, 1) := by decide +kernel
set_option maxRecDepth 20000 in
theorem ggX10_told_X11_holds : GoodIn wsX10_told wsX11_holds := goodIn_r _ [9] (by decide +kernel) (by decide +kernel)
set_option maxRecDepth 20000 in
theorem gX10_told_X11_holds_n95 : GoodIn wsX10_told (wsX11_holds) := ggX10_told_X11_holds
set_option maxRecDepth 20000 in
theorem ggX10_told_X10_weight : GoodIn wsX10_told wsX10_weight := goodIn_r _ [14, 1, 4, 15, 16, 17, 13, 18, 5, 19, 20, 21, 22, 23, 24, 25, 26, 27, 28, 29, 30, 31, 32, 33, 34, 35, 36, 37, 38, 39, 40, 41, 42, 43, 44, 45] (by decide +kernel) (by decide +kernel)
set_option maxRecDepth 20000 in
theorem gX10_told_X10_weight : GoodIn wsX10_told (wsV RX10 118 RX10 yX10_weight wsX10_weight) := goodIn_app (goodIn_of _ (by decide +kernel)) ggX10_told_X10_weight
theorem dX10_told_0 : decode cX10_told 0 = .ok (.iload_n 2, 1) := by decide +kernel
theorem dX10_told_1 : decode cX10_told 1 = .ok (.tableswitch 91 0 5 #[39, 46, 53, 60, 67, 74], 39) := by decide +kernel
theorem dX10_told_40 : decode cX10_told 40 = .ok (.aload_n 0, 1) := by decide +kernel
theorem dX10_told_41 : decode cX10_told 41 = .ok (.getfield 18, 3) := by decide +kernel
theorem dX10_told_44 : decode cX10_told 44 = .ok (.iload_n 1, 1) := by decide +kernel
theorem dX10_told_45 : decode cX10_told 45 = .ok (.iaload, 1) := by decide +kernel
theorem dX10_told_46 : decode cX10_told 46 = .ok (.ireturn, 1) := by decide +kernel
theorem dX10_told_47 : decode cX10_told 47 = .ok (.aload_n 0, 1) := by decide +kernel
theorem dX10_told_48 : decode cX10_told 48 = .ok (.getfield 21, 3) := by decide +kernel
theorem dX10_told_51 : decode cX10_told 51 = .ok (.iload_n 1, 1) := by decide +kernel
theorem dX10_told_52 : decode cX10_told 52 = .ok (.iaload, 1) := by decide +kernel
theorem dX10_told_53 : decode cX10_told 53 = .ok (.ireturn, 1) := by decide +kernel
theorem dX10_told_54 : decode cX10_told 54 = .ok (.aload_n 0, 1) := by decide +kernel
theorem dX10_told_55 : decode cX10_told 55 = .ok (.getfield 24, 3) := by decide +kernel
theorem dX10_told_58 : decode cX10_told 58 = .ok (.iload_n 1, 1) := by decide +kernel
theorem dX10_told_59 : decode cX10_told 59 = .ok (.iaload, 1) := by decide +kernel
theorem dX10_told_60 : decode cX10_told 60 = .ok (.ireturn, 1) := by decide +kernel
theorem dX10_told_61 : decode cX10_told 61 = .ok (.aload_n 0, 1) := by decide +kernel
theorem dX10_told_62 : decode cX10_told 62 = .ok (.getfield 27, 3) := by decide +kernel
theorem dX10_told_65 : decode cX10_told 65 = .ok (.iload_n 1, 1) := by decide +kernel
theorem dX10_told_66 : decode cX10_told 66 = .ok (.iaload, 1) := by decide +kernel
theorem dX10_told_67 : decode cX10_told 67 = .ok (.ireturn, 1) := by decide +kernel
theorem dX10_told_68 : decode cX10_told 68 = .ok (.aload_n 0, 1) := by decide +kernel
theorem dX10_told_69 : decode cX10_told 69 = .ok (.getfield 30, 3) := by decide +kernel
theorem dX10_told_72 : decode cX10_told 72 = .ok (.iload_n 1, 1) := by decide +kernel
theorem dX10_told_73 : decode cX10_told 73 = .ok (.iaload, 1) := by decide +kernel
theorem dX10_told_74 : decode cX10_told 74 = .ok (.ireturn, 1) := by decide +kernel
theorem dX10_told_75 : decode cX10_told 75 = .ok (.aload_n 0, 1) := by decide +kernel
theorem dX10_told_76 : decode cX10_told 76 = .ok (.getfield 62, 3) := by decide +kernel
theorem dX10_told_79 : decode cX10_told 79 = .ok (.iload_n 1, 1) := by decide +kernel
theorem dX10_told_80 : decode cX10_told 80 = .ok (.invokestatic 95, 3) := by decide +kernel
theorem dX10_told_83 : decode cX10_told 83 = .ok (.ifCond .eq 7, 3) := by decide +kernel
theorem dX10_told_86 : decode cX10_told 86 = .ok (.iconst 1, 1) := by decide +kernel
theorem dX10_told_87 : decode cX10_told 87 = .ok (.goto 4, 3) := by decide +kernel
theorem dX10_told_90 : decode cX10_told 90 = .ok (.iconst 0, 1) := by decide +kernel
theorem dX10_told_91 : decode cX10_told 91 = .ok (.ireturn, 1) := by decide +kernel
theorem dX10_told_92 : decode cX10_told 92 = .ok (.aload_n 0, 1) := by decide +kernel
theorem dX10_told_93 : decode cX10_told 93 = .ok (.iload_n 1, 1) := by decide +kernel
theorem dX10_told_94 : decode cX10_told 94 = .ok (.iconst 0, 1) := by decide +kernel
theorem dX10_told_95 : decode cX10_told 95 = .ok (.invokevirtual 118, 3) := by decide +kernel
theorem dX10_told_98 : decode cX10_told 98 = .ok (.ireturn, 1) := by decide +kernel
set_option maxRecDepth 20000 in
theorem ggX10_digestOn_X10_told : GoodIn wsX10_digestOn wsX10_told := goodIn_r _ [13, 14, 15, 16, 17, 18, 19, 20, 21, 22, 23, 24, 25, 12, 26, 27, 28, 29, 30, 31, 32, 33, 34, 35, 36, 37, 38, 39, 40, 41, 42, 51, 52, 53, 54, 55, 56, 57, 58, 59, 60, 61, 62, 63, 64, 65] (by decide +kernel) (by decide +kernel)
set_option maxRecDepth 20000 in
theorem gX10_digestOn_X10_told : GoodIn wsX10_digestOn (wsV RX10 127 RX10 yX10_told wsX10_told) := goodIn_app (goodIn_of _ (by decide +kernel)) ggX10_digestOn_X10_told
set_option maxRecDepth 20000 in
theorem ggX10_digestOn_X7_digestOn : GoodIn wsX10_digestOn wsX7_digestOn := goodIn_r _ [47, 48, 49, 50, 66, 67, 68] (by decide +kernel) (by decide +kernel)
set_option maxRecDepth 20000 in
theorem gX10_digestOn_X7_digestOn : GoodIn wsX10_digestOn (wsV RX10 130 RX7 yX7_digestOn wsX7_digestOn) := goodIn_app (goodIn_of _ (by decide +kernel)) ggX10_digestOn_X7_digestOn
theorem dX10_digestOn_0 : decode cX10_digestOn 0 = .ok (.iconst 0, 1) := by decide +kernel
theorem dX10_digestOn_1 : decode cX10_digestOn 1 = .ok (.istore_n 3, 1) := by decide +kernel
theorem dX10_digestOn_2 : decode cX10_digestOn 2 = .ok (.iload_n 3, 1) := by decide +kernel
theorem dX10_digestOn_3 : decode cX10_digestOn 3 = .ok (.aload_n 0, 1) := by decide +kernel
theorem dX10_digestOn_4 : decode cX10_digestOn 4 = .ok (.getfield 55, 3) := by decide +kernel
theorem dX10_digestOn_7 : decode cX10_digestOn 7 = .ok (.if_icmp .ge 37, 3) := by decide +kernel
theorem dX10_digestOn_10 : decode cX10_digestOn 10 = .ok (.ldc2_w 125, 3) := by decide +kernel
theorem dX10_digestOn_13 : decode cX10_digestOn 13 = .ok (.lload_n 1, 1) := by decide +kernel
theorem dX10_digestOn_14 : decode cX10_digestOn 14 = .ok (.lmul, 1) := by decide +kernel
theorem dX10_digestOn_15 : decode cX10_digestOn 15 = .ok (.aload_n 0, 1) := by decide +kernel
theorem dX10_digestOn_16 : decode cX10_digestOn 16 = .ok (.getfield 9, 3) := by decide +kernel
theorem dX10_digestOn_19 : decode cX10_digestOn 19 = .ok (.iload_n 3, 1) := by decide +kernel
theorem dX10_digestOn_20 : decode cX10_digestOn 20 = .ok (.iaload, 1) := by decide +kernel
theorem dX10_digestOn_21 : decode cX10_digestOn 21 = .ok (.i2l, 1) := by decide +kernel
theorem dX10_digestOn_22 : decode cX10_digestOn 22 = .ok (.ladd, 1) := by decide +kernel
theorem dX10_digestOn_23 : decode cX10_digestOn 23 = .ok (.lstore_n 1, 1) := by decide +kernel
theorem dX10_digestOn_24 : decode cX10_digestOn 24 = .ok (.ldc2_w 125, 3) := by decide +kernel
theorem dX10_digestOn_27 : decode cX10_digestOn 27 = .ok (.lload_n 1, 1) := by decide +kernel
theorem dX10_digestOn_28 : decode cX10_digestOn 28 = .ok (.lmul, 1) := by decide +kernel
theorem dX10_digestOn_29 : decode cX10_digestOn 29 = .ok (.aload_n 0, 1) := by decide +kernel
theorem dX10_digestOn_30 : decode cX10_digestOn 30 = .ok (.getfield 15, 3) := by decide +kernel
theorem dX10_digestOn_33 : decode cX10_digestOn 33 = .ok (.iload_n 3, 1) := by decide +kernel
theorem dX10_digestOn_34 : decode cX10_digestOn 34 = .ok (.iaload, 1) := by decide +kernel
theorem dX10_digestOn_35 : decode cX10_digestOn 35 = .ok (.i2l, 1) := by decide +kernel
theorem dX10_digestOn_36 : decode cX10_digestOn 36 = .ok (.ladd, 1) := by decide +kernel
theorem dX10_digestOn_37 : decode cX10_digestOn 37 = .ok (.lstore_n 1, 1) := by decide +kernel
theorem dX10_digestOn_38 : decode cX10_digestOn 38 = .ok (.iinc 3 1, 3) := by decide +kernel
theorem dX10_digestOn_41 : decode cX10_digestOn 41 = .ok (.goto (-39), 3) := by decide +kernel
theorem dX10_digestOn_44 : decode cX10_digestOn 44 = .ok (.iconst 0, 1) := by decide +kernel
theorem dX10_digestOn_45 : decode cX10_digestOn 45 = .ok (.istore_n 3, 1) := by decide +kernel
theorem dX10_digestOn_46 : decode cX10_digestOn 46 = .ok (.iload_n 3, 1) := by decide +kernel
theorem dX10_digestOn_47 : decode cX10_digestOn 47 = .ok (.aload_n 0, 1) := by decide +kernel
theorem dX10_digestOn_48 : decode cX10_digestOn 48 = .ok (.getfield 59, 3) := by decide +kernel
theorem dX10_digestOn_51 : decode cX10_digestOn 51 = .ok (.if_icmp .ge 40, 3) := by decide +kernel
theorem dX10_digestOn_54 : decode cX10_digestOn 54 = .ok (.iconst 0, 1) := by decide +kernel
theorem dX10_digestOn_55 : decode cX10_digestOn 55 = .ok (.istore 4, 2) := by decide +kernel
theorem dX10_digestOn_57 : decode cX10_digestOn 57 = .ok (.iload 4, 2) := by decide +kernel
theorem dX10_digestOn_59 : decode cX10_digestOn 59 = .ok (.bipush 6, 2) := by decide +kernel
theorem dX10_digestOn_61 : decode cX10_digestOn 61 = .ok (.if_icmp .ge 24, 3) := by decide +kernel
theorem dX10_digestOn_64 : decode cX10_digestOn 64 = .ok (.ldc2_w 125, 3) := by decide +kernel
theorem dX10_digestOn_67 : decode cX10_digestOn 67 = .ok (.lload_n 1, 1) := by decide +kernel
theorem dX10_digestOn_68 : decode cX10_digestOn 68 = .ok (.lmul, 1) := by decide +kernel
theorem dX10_digestOn_69 : decode cX10_digestOn 69 = .ok (.aload_n 0, 1) := by decide +kernel
theorem dX10_digestOn_70 : decode cX10_digestOn 70 = .ok (.iload_n 3, 1) := by decide +kernel
theorem dX10_digestOn_71 : decode cX10_digestOn 71 = .ok (.iload 4, 2) := by decide +kernel
theorem dX10_digestOn_73 : decode cX10_digestOn 73 = .ok (.invokevirtual 127, 3) := by decide +kernel
theorem dX10_digestOn_76 : decode cX10_digestOn 76 = .ok (.i2l, 1) := by decide +kernel
theorem dX10_digestOn_77 : decode cX10_digestOn 77 = .ok (.ladd, 1) := by decide +kernel
theorem dX10_digestOn_78 : decode cX10_digestOn 78 = .ok (.lstore_n 1, 1) := by decide +kernel
theorem dX10_digestOn_79 : decode cX10_digestOn 79 = .ok (.iinc 4 1, 3) := by decide +kernel
theorem dX10_digestOn_82 : decode cX10_digestOn 82 = .ok (.goto (-25), 3) := by decide +kernel
theorem dX10_digestOn_85 : decode cX10_digestOn 85 = .ok (.iinc 3 1, 3) := by decide +kernel
theorem dX10_digestOn_88 : decode cX10_digestOn 88 = .ok (.goto (-42), 3) := by decide +kernel
theorem dX10_digestOn_91 : decode cX10_digestOn 91 = .ok (.aload_n 0, 1) := by decide +kernel
theorem dX10_digestOn_92 : decode cX10_digestOn 92 = .ok (.getfield 45, 3) := by decide +kernel
theorem dX10_digestOn_95 : decode cX10_digestOn 95 = .ok (.aload_n 0, 1) := by decide +kernel
theorem dX10_digestOn_96 : decode cX10_digestOn 96 = .ok (.getfield 42, 3) := by decide +kernel
theorem dX10_digestOn_99 : decode cX10_digestOn 99 = .ok (.aload_n 0, 1) := by decide +kernel
theorem dX10_digestOn_100 : decode cX10_digestOn 100 = .ok (.getfield 38, 3) := by decide +kernel
theorem dX10_digestOn_103 : decode cX10_digestOn 103 = .ok (.lload_n 1, 1) := by decide +kernel
theorem dX10_digestOn_104 : decode cX10_digestOn 104 = .ok (.invokevirtual 130, 3) := by decide +kernel
theorem dX10_digestOn_107 : decode cX10_digestOn 107 = .ok (.invokevirtual 130, 3) := by decide +kernel
theorem dX10_digestOn_110 : decode cX10_digestOn 110 = .ok (.invokevirtual 130, 3) := by decide +kernel
theorem dX10_digestOn_113 : decode cX10_digestOn 113 = .ok (.lreturn, 1) := by decide +kernel
set_option maxRecDepth 20000 in
theorem ggX11_init_X10_init : GoodIn wsX11_init wsX10_init := goodIn_r _ [32, 33, 2, 3, 34, 35, 36, 37, 38, 39, 40, 41, 42, 43, 44, 45, 46, 47, 48, 49, 50, 51, 52, 53, 54, 55, 56, 57, 58, 59, 60, 61, 85, 86, 87, 88, 89, 90, 91, 92, 93, 94, 95, 96, 97, 98, 99, 123, 124, 125, 126, 127] (by decide +kernel) (by decide +kernel)
set_option maxRecDepth 20000 in
theorem gX11_init_X10_init_n9 : GoodIn wsX11_init (wsX10_init) := ggX11_init_X10_init
set_option maxRecDepth 20000 in
theorem ggX11_init_X9_init : GoodIn wsX11_init wsX9_init := goodIn_r _ [63, 64, 2, 3, 65, 66, 111, 112, 113, 114, 115, 116] (by decide +kernel) (by decide +kernel)
set_option maxRecDepth 20000 in
theorem gX11_init_X9_init_n26 : GoodIn wsX11_init (wsX9_init) := ggX11_init_X9_init
set_option maxRecDepth 20000 in
theorem ggX11_init_X5_init : GoodIn wsX11_init wsX5_init := goodIn_r _ [68, 69, 2, 3, 70, 5, 6, 71, 34, 72, 31, 32, 33, 35, 36, 37, 38, 39, 40, 41, 42, 43, 44, 45, 46, 47, 48, 49, 50, 51, 52, 53, 54, 55, 56, 57, 58, 59, 60, 61, 85, 86, 87, 88, 89, 90, 91, 92, 93, 94, 95, 96, 97, 98, 99, 117, 118, 123, 124, 125, 126, 127] (by decide +kernel) (by decide +kernel)
set_option maxRecDepth 20000 in
theorem gX11_init_X5_init_n33 : GoodIn wsX11_init (wsX5_init) := ggX11_init_X5_init
set_option maxRecDepth 20000 in
theorem ggX11_init_X6_init : GoodIn wsX11_init wsX6_init := goodIn_r _ [74, 75, 2, 3, 34, 76, 119] (by decide +kernel) (by decide +kernel)
set_option maxRecDepth 20000 in
theorem gX11_init_X6_init_n40 : GoodIn wsX11_init (wsX6_init) := ggX11_init_X6_init
set_option maxRecDepth 20000 in
theorem ggX11_init_X1_init : GoodIn wsX11_init wsX1_init := goodIn_r _ [78, 79, 2, 3, 34, 80, 120] (by decide +kernel) (by decide +kernel)
set_option maxRecDepth 20000 in
theorem gX11_init_X1_init_n47 : GoodIn wsX11_init (wsX1_init) := ggX11_init_X1_init
set_option maxRecDepth 20000 in
theorem ggX11_init_X0_init : GoodIn wsX11_init wsX0_init := goodIn_r _ [82, 83, 2, 3, 84, 121, 122] (by decide +kernel) (by decide +kernel)
set_option maxRecDepth 20000 in
theorem gX11_init_X0_init_n54 : GoodIn wsX11_init (wsX0_init) := ggX11_init_X0_init
