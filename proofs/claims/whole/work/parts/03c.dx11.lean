theorem dX11_init_0 : decode cX11_init 0 = .ok (.aload_n 0, 1) := by decide +kernel
theorem dX11_init_1 : decode cX11_init 1 = .ok (.invokespecial 1, 3) := by decide +kernel
theorem dX11_init_4 : decode cX11_init 4 = .ok (.aload_n 0, 1) := by decide +kernel
theorem dX11_init_5 : decode cX11_init 5 = .ok (.new 7, 3) := by decide +kernel
theorem dX11_init_8 : decode cX11_init 8 = .ok (.dup, 1) := by decide +kernel
theorem dX11_init_9 : decode cX11_init 9 = .ok (.invokespecial 9, 3) := by decide +kernel
theorem dX11_init_12 : decode cX11_init 12 = .ok (.putfield 10, 3) := by decide +kernel
theorem dX11_init_15 : decode cX11_init 15 = .ok (.aload_n 0, 1) := by decide +kernel
theorem dX11_init_16 : decode cX11_init 16 = .ok (.iconst 2, 1) := by decide +kernel
theorem dX11_init_17 : decode cX11_init 17 = .ok (.anewarray 7, 3) := by decide +kernel
theorem dX11_init_20 : decode cX11_init 20 = .ok (.dup, 1) := by decide +kernel
theorem dX11_init_21 : decode cX11_init 21 = .ok (.iconst 0, 1) := by decide +kernel
theorem dX11_init_22 : decode cX11_init 22 = .ok (.new 7, 3) := by decide +kernel
theorem dX11_init_25 : decode cX11_init 25 = .ok (.dup, 1) := by decide +kernel
theorem dX11_init_26 : decode cX11_init 26 = .ok (.invokespecial 9, 3) := by decide +kernel
theorem dX11_init_29 : decode cX11_init 29 = .ok (.aastore, 1) := by decide +kernel
theorem dX11_init_30 : decode cX11_init 30 = .ok (.dup, 1) := by decide +kernel
theorem dX11_init_31 : decode cX11_init 31 = .ok (.iconst 1, 1) := by decide +kernel
theorem dX11_init_32 : decode cX11_init 32 = .ok (.new 7, 3) := by decide +kernel
theorem dX11_init_35 : decode cX11_init 35 = .ok (.dup, 1) := by decide +kernel
theorem dX11_init_36 : decode cX11_init 36 = .ok (.invokespecial 9, 3) := by decide +kernel
theorem dX11_init_39 : decode cX11_init 39 = .ok (.aastore, 1) := by decide +kernel
theorem dX11_init_40 : decode cX11_init 40 = .ok (.putfield 16, 3) := by decide +kernel
theorem dX11_init_43 : decode cX11_init 43 = .ok (.aload_n 0, 1) := by decide +kernel
theorem dX11_init_44 : decode cX11_init 44 = .ok (.iconst 2, 1) := by decide +kernel
theorem dX11_init_45 : decode cX11_init 45 = .ok (.newarray .boolean, 2) := by decide +kernel
theorem dX11_init_47 : decode cX11_init 47 = .ok (.putfield 20, 3) := by decide +kernel
theorem dX11_init_50 : decode cX11_init 50 = .ok (.aload_n 0, 1) := by decide +kernel
theorem dX11_init_51 : decode cX11_init 51 = .ok (.new 24, 3) := by decide +kernel
theorem dX11_init_54 : decode cX11_init 54 = .ok (.dup, 1) := by decide +kernel
theorem dX11_init_55 : decode cX11_init 55 = .ok (.invokespecial 26, 3) := by decide +kernel
theorem dX11_init_58 : decode cX11_init 58 = .ok (.putfield 27, 3) := by decide +kernel
theorem dX11_init_61 : decode cX11_init 61 = .ok (.aload_n 0, 1) := by decide +kernel
theorem dX11_init_62 : decode cX11_init 62 = .ok (.new 31, 3) := by decide +kernel
theorem dX11_init_65 : decode cX11_init 65 = .ok (.dup, 1) := by decide +kernel
theorem dX11_init_66 : decode cX11_init 66 = .ok (.invokespecial 33, 3) := by decide +kernel
theorem dX11_init_69 : decode cX11_init 69 = .ok (.putfield 34, 3) := by decide +kernel
theorem dX11_init_72 : decode cX11_init 72 = .ok (.aload_n 0, 1) := by decide +kernel
theorem dX11_init_73 : decode cX11_init 73 = .ok (.new 38, 3) := by decide +kernel
theorem dX11_init_76 : decode cX11_init 76 = .ok (.dup, 1) := by decide +kernel
theorem dX11_init_77 : decode cX11_init 77 = .ok (.invokespecial 40, 3) := by decide +kernel
theorem dX11_init_80 : decode cX11_init 80 = .ok (.putfield 41, 3) := by decide +kernel
theorem dX11_init_83 : decode cX11_init 83 = .ok (.aload_n 0, 1) := by decide +kernel
theorem dX11_init_84 : decode cX11_init 84 = .ok (.new 45, 3) := by decide +kernel
theorem dX11_init_87 : decode cX11_init 87 = .ok (.dup, 1) := by decide +kernel
theorem dX11_init_88 : decode cX11_init 88 = .ok (.invokespecial 47, 3) := by decide +kernel
theorem dX11_init_91 : decode cX11_init 91 = .ok (.putfield 48, 3) := by decide +kernel
theorem dX11_init_94 : decode cX11_init 94 = .ok (.aload_n 0, 1) := by decide +kernel
theorem dX11_init_95 : decode cX11_init 95 = .ok (.new 52, 3) := by decide +kernel
theorem dX11_init_98 : decode cX11_init 98 = .ok (.dup, 1) := by decide +kernel
theorem dX11_init_99 : decode cX11_init 99 = .ok (.invokespecial 54, 3) := by decide +kernel
theorem dX11_init_102 : decode cX11_init 102 = .ok (.putfield 55, 3) := by decide +kernel
theorem dX11_init_105 : decode cX11_init 105 = .ok (.return_, 1) := by decide +kernel
set_option maxRecDepth 20000 in
theorem ggX11_valley_X10_empty : GoodIn wsX11_valley wsX10_empty := goodIn_r _ [7, 8, 9, 10, 11, 12, 13, 14, 15, 16, 17, 29, 30, 31, 32, 33, 34, 35, 36, 37, 38, 39, 40, 41, 42, 43, 44, 45, 46, 47, 48] (by decide +kernel) (by decide +kernel)
set_option maxRecDepth 20000 in
theorem gX11_valley_X10_empty : GoodIn wsX11_valley (wsV RX11 63 RX10 yX10_empty wsX10_empty) := goodIn_app (goodIn_of _ (by decide +kernel)) ggX11_valley_X10_empty
theorem dX11_valley_0 : decode cX11_valley 0 = .ok (.aload_n 0, 1) := by decide +kernel
theorem dX11_valley_1 : decode cX11_valley 1 = .ok (.getfield 10, 3) := by decide +kernel
theorem dX11_valley_4 : decode cX11_valley 4 = .ok (.getfield 59, 3) := by decide +kernel
theorem dX11_valley_7 : decode cX11_valley 7 = .ok (.istore_n 1, 1) := by decide +kernel
theorem dX11_valley_8 : decode cX11_valley 8 = .ok (.aload_n 0, 1) := by decide +kernel
theorem dX11_valley_9 : decode cX11_valley 9 = .ok (.getfield 10, 3) := by decide +kernel
theorem dX11_valley_12 : decode cX11_valley 12 = .ok (.invokevirtual 63, 3) := by decide +kernel
theorem dX11_valley_15 : decode cX11_valley 15 = .ok (.iload_n 1, 1) := by decide +kernel
theorem dX11_valley_16 : decode cX11_valley 16 = .ok (.ireturn, 1) := by decide +kernel
set_option maxRecDepth 20000 in
theorem ggX11_one_X11_within : GoodIn wsX11_one wsX11_within := goodIn_r _ [8] (by decide +kernel) (by decide +kernel)
set_option maxRecDepth 20000 in
theorem gX11_one_X11_within : GoodIn wsX11_one (va_wsS RX11 66 yX11_within wsX11_within) := goodIn_app (goodIn_of _ (by decide +kernel)) ggX11_one_X11_within
set_option maxRecDepth 20000 in
theorem ggX11_one_X11_bad : GoodIn wsX11_one wsX11_bad := goodIn_r _ [12, 13, 27, 28, 29, 30, 31, 32, 33, 34, 35, 36, 37] (by decide +kernel) (by decide +kernel)
set_option maxRecDepth 20000 in
theorem gX11_one_X11_bad : GoodIn wsX11_one (wsV RX11 70 RX11 yX11_bad wsX11_bad) := goodIn_app (goodIn_of _ (by decide +kernel)) ggX11_one_X11_bad
set_option maxRecDepth 20000 in
theorem ggX11_one_X11_full : GoodIn wsX11_one wsX11_full := goodIn_r _ [17, 18, 27, 28, 29, 30, 31, 32, 33, 34, 35, 36, 37] (by decide +kernel) (by decide +kernel)
set_option maxRecDepth 20000 in
theorem gX11_one_X11_full : GoodIn wsX11_one (wsV RX11 74 RX11 yX11_full wsX11_full) := goodIn_app (goodIn_of _ (by decide +kernel)) ggX11_one_X11_full
set_option maxRecDepth 20000 in
theorem ggX11_one_X10_addPerson : GoodIn wsX11_one wsX10_addPerson := goodIn_r _ [23, 24, 25, 26, 38, 39, 40, 41, 42, 43, 44, 45, 46, 47, 48, 49, 50, 51, 52] (by decide +kernel) (by decide +kernel)
set_option maxRecDepth 20000 in
theorem gX11_one_X10_addPerson : GoodIn wsX11_one (wsV RX11 86 RX10 yX10_addPerson wsX10_addPerson) := goodIn_app (goodIn_of _ (by decide +kernel)) ggX11_one_X10_addPerson
theorem dX11_one_0 : decode cX11_one 0 = .ok (.iload_n 1, 1) := by decide +kernel
theorem dX11_one_1 : decode cX11_one 1 = .ok (.iconst 0, 1) := by decide +kernel
theorem dX11_one_2 : decode cX11_one 2 = .ok (.iconst 5, 1) := by decide +kernel
theorem dX11_one_3 : decode cX11_one 3 = .ok (.invokestatic 66, 3) := by decide +kernel
theorem dX11_one_6 : decode cX11_one 6 = .ok (.ifCond .ne 8, 3) := by decide +kernel
theorem dX11_one_9 : decode cX11_one 9 = .ok (.aload_n 0, 1) := by decide +kernel
theorem dX11_one_10 : decode cX11_one 10 = .ok (.invokevirtual 70, 3) := by decide +kernel
theorem dX11_one_13 : decode cX11_one 13 = .ok (.ireturn, 1) := by decide +kernel
theorem dX11_one_14 : decode cX11_one 14 = .ok (.aload_n 0, 1) := by decide +kernel
theorem dX11_one_15 : decode cX11_one 15 = .ok (.getfield 10, 3) := by decide +kernel
theorem dX11_one_18 : decode cX11_one 18 = .ok (.getfield 59, 3) := by decide +kernel
theorem dX11_one_21 : decode cX11_one 21 = .ok (.bipush 6, 2) := by decide +kernel
theorem dX11_one_23 : decode cX11_one 23 = .ok (.if_icmp .lt 8, 3) := by decide +kernel
theorem dX11_one_26 : decode cX11_one 26 = .ok (.aload_n 0, 1) := by decide +kernel
theorem dX11_one_27 : decode cX11_one 27 = .ok (.invokevirtual 74, 3) := by decide +kernel
theorem dX11_one_30 : decode cX11_one 30 = .ok (.ireturn, 1) := by decide +kernel
theorem dX11_one_31 : decode cX11_one 31 = .ok (.aload_n 0, 1) := by decide +kernel
theorem dX11_one_32 : decode cX11_one 32 = .ok (.getfield 10, 3) := by decide +kernel
theorem dX11_one_35 : decode cX11_one 35 = .ok (.getfield 77, 3) := by decide +kernel
theorem dX11_one_38 : decode cX11_one 38 = .ok (.iconst 0, 1) := by decide +kernel
theorem dX11_one_39 : decode cX11_one 39 = .ok (.putfield 81, 3) := by decide +kernel
theorem dX11_one_42 : decode cX11_one 42 = .ok (.aload_n 0, 1) := by decide +kernel
theorem dX11_one_43 : decode cX11_one 43 = .ok (.getfield 10, 3) := by decide +kernel
theorem dX11_one_46 : decode cX11_one 46 = .ok (.iload_n 1, 1) := by decide +kernel
theorem dX11_one_47 : decode cX11_one 47 = .ok (.invokevirtual 86, 3) := by decide +kernel
theorem dX11_one_50 : decode cX11_one 50 = .ok (.ireturn, 1) := by decide +kernel
set_option maxRecDepth 20000 in
theorem ggX11_wrong_X11_within : GoodIn wsX11_wrong wsX11_within := goodIn_r _ [8] (by decide +kernel) (by decide +kernel)
set_option maxRecDepth 20000 in
theorem gX11_wrong_X11_within : GoodIn wsX11_wrong (va_wsS RX11 66 yX11_within wsX11_within) := goodIn_app (goodIn_of _ (by decide +kernel)) ggX11_wrong_X11_within
set_option maxRecDepth 20000 in
theorem ggX11_wrong_X10_hasPerson : GoodIn wsX11_wrong wsX10_hasPerson := goodIn_r _ [13, 14, 6, 7, 8, 46, 47, 48, 49, 50, 51, 52, 53, 54, 55, 56, 57, 58, 59, 60] (by decide +kernel) (by decide +kernel)
set_option maxRecDepth 20000 in
theorem gX11_wrong_X10_hasPerson : GoodIn wsX11_wrong (wsV RX11 90 RX10 yX10_hasPerson wsX10_hasPerson) := goodIn_app (goodIn_of _ (by decide +kernel)) ggX11_wrong_X10_hasPerson
set_option maxRecDepth 20000 in
theorem ggX11_wrong_X11_bad : GoodIn wsX11_wrong wsX11_bad := goodIn_r _ [18, 19, 35, 36, 37, 38, 39, 40, 41, 42, 43, 44, 45] (by decide +kernel) (by decide +kernel)
set_option maxRecDepth 20000 in
theorem gX11_wrong_X11_bad : GoodIn wsX11_wrong (wsV RX11 70 RX11 yX11_bad wsX11_bad) := goodIn_app (goodIn_of _ (by decide +kernel)) ggX11_wrong_X11_bad
set_option maxRecDepth 20000 in
theorem ggX11_wrong_X11_full : GoodIn wsX11_wrong wsX11_full := goodIn_r _ [23, 24, 35, 36, 37, 38, 39, 40, 41, 42, 43, 44, 45] (by decide +kernel) (by decide +kernel)
set_option maxRecDepth 20000 in
theorem gX11_wrong_X11_full : GoodIn wsX11_wrong (wsV RX11 74 RX11 yX11_full wsX11_full) := goodIn_app (goodIn_of _ (by decide +kernel)) ggX11_wrong_X11_full
set_option maxRecDepth 20000 in
theorem ggX11_wrong_X10_addWrong : GoodIn wsX11_wrong wsX10_addWrong := goodIn_r _ [28, 29, 30, 31, 32, 33, 34, 46, 47, 48, 49, 50, 51, 52, 53, 54, 55, 56, 57, 58, 59, 60] (by decide +kernel) (by decide +kernel)
set_option maxRecDepth 20000 in
theorem gX11_wrong_X10_addWrong : GoodIn wsX11_wrong (wsV RX11 97 RX10 yX10_addWrong wsX10_addWrong) := goodIn_app (goodIn_of _ (by decide +kernel)) ggX11_wrong_X10_addWrong
theorem dX11_wrong_0 : decode cX11_wrong 0 = .ok (.iload_n 1, 1) := by decide +kernel
theorem dX11_wrong_1 : decode cX11_wrong 1 = .ok (.iconst 0, 1) := by decide +kernel
theorem dX11_wrong_2 : decode cX11_wrong 2 = .ok (.iconst 5, 1) := by decide +kernel
theorem dX11_wrong_3 : decode cX11_wrong 3 = .ok (.invokestatic 66, 3) := by decide +kernel
theorem dX11_wrong_6 : decode cX11_wrong 6 = .ok (.ifCond .eq 41, 3) := by decide +kernel
theorem dX11_wrong_9 : decode cX11_wrong 9 = .ok (.aload_n 0, 1) := by decide +kernel
theorem dX11_wrong_10 : decode cX11_wrong 10 = .ok (.getfield 10, 3) := by decide +kernel
theorem dX11_wrong_13 : decode cX11_wrong 13 = .ok (.iload_n 2, 1) := by decide +kernel
theorem dX11_wrong_14 : decode cX11_wrong 14 = .ok (.invokevirtual 90, 3) := by decide +kernel
theorem dX11_wrong_17 : decode cX11_wrong 17 = .ok (.ifCond .eq 30, 3) := by decide +kernel
theorem dX11_wrong_20 : decode cX11_wrong 20 = .ok (.aload_n 0, 1) := by decide +kernel
theorem dX11_wrong_21 : decode cX11_wrong 21 = .ok (.getfield 10, 3) := by decide +kernel
theorem dX11_wrong_24 : decode cX11_wrong 24 = .ok (.iload_n 3, 1) := by decide +kernel
theorem dX11_wrong_25 : decode cX11_wrong 25 = .ok (.invokevirtual 90, 3) := by decide +kernel
theorem dX11_wrong_28 : decode cX11_wrong 28 = .ok (.ifCond .eq 19, 3) := by decide +kernel
theorem dX11_wrong_31 : decode cX11_wrong 31 = .ok (.iload_n 2, 1) := by decide +kernel
theorem dX11_wrong_32 : decode cX11_wrong 32 = .ok (.iload_n 3, 1) := by decide +kernel
theorem dX11_wrong_33 : decode cX11_wrong 33 = .ok (.if_icmp .eq 14, 3) := by decide +kernel
theorem dX11_wrong_36 : decode cX11_wrong 36 = .ok (.iload 4, 2) := by decide +kernel
theorem dX11_wrong_38 : decode cX11_wrong 38 = .ok (.iconst 1, 1) := by decide +kernel
theorem dX11_wrong_39 : decode cX11_wrong 39 = .ok (.bipush 9, 2) := by decide +kernel
theorem dX11_wrong_41 : decode cX11_wrong 41 = .ok (.invokestatic 66, 3) := by decide +kernel
theorem dX11_wrong_44 : decode cX11_wrong 44 = .ok (.ifCond .ne 8, 3) := by decide +kernel
theorem dX11_wrong_47 : decode cX11_wrong 47 = .ok (.aload_n 0, 1) := by decide +kernel
theorem dX11_wrong_48 : decode cX11_wrong 48 = .ok (.invokevirtual 70, 3) := by decide +kernel
theorem dX11_wrong_51 : decode cX11_wrong 51 = .ok (.ireturn, 1) := by decide +kernel
theorem dX11_wrong_52 : decode cX11_wrong 52 = .ok (.aload_n 0, 1) := by decide +kernel
theorem dX11_wrong_53 : decode cX11_wrong 53 = .ok (.getfield 10, 3) := by decide +kernel
theorem dX11_wrong_56 : decode cX11_wrong 56 = .ok (.getfield 94, 3) := by decide +kernel
theorem dX11_wrong_59 : decode cX11_wrong 59 = .ok (.bipush 8, 2) := by decide +kernel
theorem dX11_wrong_61 : decode cX11_wrong 61 = .ok (.if_icmp .lt 8, 3) := by decide +kernel
theorem dX11_wrong_64 : decode cX11_wrong 64 = .ok (.aload_n 0, 1) := by decide +kernel
theorem dX11_wrong_65 : decode cX11_wrong 65 = .ok (.invokevirtual 74, 3) := by decide +kernel
theorem dX11_wrong_68 : decode cX11_wrong 68 = .ok (.ireturn, 1) := by decide +kernel
theorem dX11_wrong_69 : decode cX11_wrong 69 = .ok (.aload_n 0, 1) := by decide +kernel
theorem dX11_wrong_70 : decode cX11_wrong 70 = .ok (.getfield 10, 3) := by decide +kernel
theorem dX11_wrong_73 : decode cX11_wrong 73 = .ok (.getfield 77, 3) := by decide +kernel
theorem dX11_wrong_76 : decode cX11_wrong 76 = .ok (.iconst 0, 1) := by decide +kernel
theorem dX11_wrong_77 : decode cX11_wrong 77 = .ok (.putfield 81, 3) := by decide +kernel
theorem dX11_wrong_80 : decode cX11_wrong 80 = .ok (.aload_n 0, 1) := by decide +kernel
theorem dX11_wrong_81 : decode cX11_wrong 81 = .ok (.getfield 10, 3) := by decide +kernel
theorem dX11_wrong_84 : decode cX11_wrong 84 = .ok (.iload_n 1, 1) := by decide +kernel
theorem dX11_wrong_85 : decode cX11_wrong 85 = .ok (.iload_n 2, 1) := by decide +kernel
theorem dX11_wrong_86 : decode cX11_wrong 86 = .ok (.iload_n 3, 1) := by decide +kernel
theorem dX11_wrong_87 : decode cX11_wrong 87 = .ok (.iload 4, 2) := by decide +kernel
theorem dX11_wrong_89 : decode cX11_wrong 89 = .ok (.invokevirtual 97, 3) := by decide +kernel
theorem dX11_wrong_92 : decode cX11_wrong 92 = .ok (.ireturn, 1) := by decide +kernel
set_option maxRecDepth 20000 in
theorem ggX11_type_X11_within : GoodIn wsX11_type wsX11_within := goodIn_r _ [6] (by decide +kernel) (by decide +kernel)
set_option maxRecDepth 20000 in
theorem gX11_type_X11_within : GoodIn wsX11_type (va_wsS RX11 66 yX11_within wsX11_within) := goodIn_app (goodIn_of _ (by decide +kernel)) ggX11_type_X11_within
set_option maxRecDepth 20000 in
theorem ggX11_type_X11_bad : GoodIn wsX11_type wsX11_bad := goodIn_r _ [10, 11, 24, 25, 26, 27, 28, 29, 30, 31, 32, 33, 34] (by decide +kernel) (by decide +kernel)
set_option maxRecDepth 20000 in
theorem gX11_type_X11_bad : GoodIn wsX11_type (wsV RX11 70 RX11 yX11_bad wsX11_bad) := goodIn_app (goodIn_of _ (by decide +kernel)) ggX11_type_X11_bad
set_option maxRecDepth 20000 in
theorem ggX11_type_X11_full : GoodIn wsX11_type wsX11_full := goodIn_r _ [15, 16, 24, 25, 26, 27, 28, 29, 30, 31, 32, 33, 34] (by decide +kernel) (by decide +kernel)
set_option maxRecDepth 20000 in
theorem gX11_type_X11_full : GoodIn wsX11_type (wsV RX11 74 RX11 yX11_full wsX11_full) := goodIn_app (goodIn_of _ (by decide +kernel)) ggX11_type_X11_full
set_option maxRecDepth 20000 in
theorem ggX11_type_X9_add : GoodIn wsX11_type wsX9_add := goodIn_r _ [21, 22, 23, 35, 36, 37, 38, 39, 40] (by decide +kernel) (by decide +kernel)
set_option maxRecDepth 20000 in
theorem gX11_type_X9_add : GoodIn wsX11_type (wsV RX11 104 RX9 yX9_add wsX9_add) := goodIn_app (goodIn_of _ (by decide +kernel)) ggX11_type_X9_add
theorem dX11_type_0 : decode cX11_type 0 = .ok (.iload_n 1, 1) := by decide +kernel
theorem dX11_type_1 : decode cX11_type 1 = .ok (.iconst 0, 1) := by decide +kernel
theorem dX11_type_2 : decode cX11_type 2 = .ok (.bipush 127, 2) := by decide +kernel
theorem dX11_type_4 : decode cX11_type 4 = .ok (.invokestatic 66, 3) := by decide +kernel
theorem dX11_type_7 : decode cX11_type 7 = .ok (.ifCond .ne 8, 3) := by decide +kernel
theorem dX11_type_10 : decode cX11_type 10 = .ok (.aload_n 0, 1) := by decide +kernel
theorem dX11_type_11 : decode cX11_type 11 = .ok (.invokevirtual 70, 3) := by decide +kernel
theorem dX11_type_14 : decode cX11_type 14 = .ok (.ireturn, 1) := by decide +kernel
theorem dX11_type_15 : decode cX11_type 15 = .ok (.aload_n 0, 1) := by decide +kernel
theorem dX11_type_16 : decode cX11_type 16 = .ok (.getfield 27, 3) := by decide +kernel
theorem dX11_type_19 : decode cX11_type 19 = .ok (.getfield 101, 3) := by decide +kernel
theorem dX11_type_22 : decode cX11_type 22 = .ok (.sipush 150, 3) := by decide +kernel
theorem dX11_type_25 : decode cX11_type 25 = .ok (.if_icmp .lt 8, 3) := by decide +kernel
theorem dX11_type_28 : decode cX11_type 28 = .ok (.aload_n 0, 1) := by decide +kernel
theorem dX11_type_29 : decode cX11_type 29 = .ok (.invokevirtual 74, 3) := by decide +kernel
theorem dX11_type_32 : decode cX11_type 32 = .ok (.ireturn, 1) := by decide +kernel
theorem dX11_type_33 : decode cX11_type 33 = .ok (.aload_n 0, 1) := by decide +kernel
theorem dX11_type_34 : decode cX11_type 34 = .ok (.getfield 27, 3) := by decide +kernel
theorem dX11_type_37 : decode cX11_type 37 = .ok (.iload_n 1, 1) := by decide +kernel
theorem dX11_type_38 : decode cX11_type 38 = .ok (.invokevirtual 104, 3) := by decide +kernel
theorem dX11_type_41 : decode cX11_type 41 = .ok (.ireturn, 1) := by decide +kernel
theorem dX11_clear_0 : decode cX11_clear 0 = .ok (.aload_n 0, 1) := by decide +kernel
theorem dX11_clear_1 : decode cX11_clear 1 = .ok (.getfield 27, 3) := by decide +kernel
theorem dX11_clear_4 : decode cX11_clear 4 = .ok (.getfield 101, 3) := by decide +kernel
theorem dX11_clear_7 : decode cX11_clear 7 = .ok (.istore_n 1, 1) := by decide +kernel
theorem dX11_clear_8 : decode cX11_clear 8 = .ok (.aload_n 0, 1) := by decide +kernel
theorem dX11_clear_9 : decode cX11_clear 9 = .ok (.getfield 27, 3) := by decide +kernel
theorem dX11_clear_12 : decode cX11_clear 12 = .ok (.iconst 0, 1) := by decide +kernel
theorem dX11_clear_13 : decode cX11_clear 13 = .ok (.putfield 101, 3) := by decide +kernel
theorem dX11_clear_16 : decode cX11_clear 16 = .ok (.iload_n 1, 1) := by decide +kernel
theorem dX11_clear_17 : decode cX11_clear 17 = .ok (.ireturn, 1) := by decide +kernel
set_option maxRecDepth 20000 in
theorem ggX11_read_X5_items : GoodIn wsX11_read wsX5_items := goodIn_r _ [10, 11, 12, 13, 14, 15, 16, 17, 18, 19, 20, 21, 22, 23, 24, 25, 26, 27, 28, 29, 30, 31, 32, 33, 34, 35, 36, 37, 38, 39, 40, 41, 42, 43, 44, 45, 46, 47, 48, 49, 50, 51, 52, 53, 54, 55, 56, 57, 58, 59, 60, 61, 62, 63, 64, 65, 66, 67, 68, 69, 70, 71, 72, 73, 74, 75, 76, 77, 78, 79, 80, 81, 82, 83, 84, 85, 86, 87, 88, 89, 90, 91, 92, 93, 94, 95, 96, 97, 98, 99, 100, 101, 102, 103, 104, 105, 106, 107, 108, 109, 110, 111, 112, 113, 114, 115, 116, 9, 117, 118, 119, 120, 121, 122, 123, 124, 125, 126, 127, 128, 129, 130, 131, 132, 133, 134, 135, 136, 137, 138, 139, 140, 141, 142, 143, 144, 145, 146, 147, 148, 149, 150, 151, 152, 153, 154, 155, 156, 157, 158, 159, 160, 161, 162, 163, 164, 165, 166, 167, 168, 169, 170, 171, 172, 173, 174, 175, 176, 177, 178, 179, 180, 181, 182, 183, 184, 185, 186, 187, 188, 189, 190, 191, 192, 193, 194, 195, 196, 197, 198, 199, 200, 201, 202, 203, 204, 205, 206, 248, 249, 242, 243, 244, 245, 246, 247, 250, 251, 252, 253, 254, 255, 256, 257, 258, 259, 260, 261, 262, 263, 264, 265, 266, 267, 268, 269] (by decide +kernel) (by decide +kernel)
set_option maxRecDepth 20000 in
theorem gX11_read_X5_items : GoodIn wsX11_read (wsV RX11 107 RX5 yX5_items wsX5_items) := goodIn_app (goodIn_of _ (by decide +kernel)) ggX11_read_X5_items
set_option maxRecDepth 20000 in
theorem ggX11_read_X10_take : GoodIn wsX11_read wsX10_take := goodIn_r _ [210, 19, 20, 21, 22, 183, 211, 212, 213, 214, 181, 158, 182, 151, 159, 164, 23, 25, 26, 27, 215, 216, 217, 218, 219, 220, 221, 222, 223, 224, 225, 226, 227, 228, 229, 230, 250, 251, 252, 253, 254, 255, 256, 257, 258, 259, 260, 261, 262, 263, 264, 265, 266, 267, 268, 269] (by decide +kernel) (by decide +kernel)
set_option maxRecDepth 20000 in
theorem gX11_read_X10_take : GoodIn wsX11_read (wsV RX11 117 RX10 yX10_take wsX10_take) := goodIn_app (goodIn_of _ (by decide +kernel)) ggX11_read_X10_take
theorem dX11_read_0 : decode cX11_read 0 = .ok (.aload_n 0, 1) := by decide +kernel
theorem dX11_read_1 : decode cX11_read 1 = .ok (.getfield 34, 3) := by decide +kernel
theorem dX11_read_4 : decode cX11_read 4 = .ok (.aload_n 0, 1) := by decide +kernel
theorem dX11_read_5 : decode cX11_read 5 = .ok (.getfield 27, 3) := by decide +kernel
theorem dX11_read_8 : decode cX11_read 8 = .ok (.invokevirtual 107, 3) := by decide +kernel
theorem dX11_read_11 : decode cX11_read 11 = .ok (.istore_n 1, 1) := by decide +kernel
theorem dX11_read_12 : decode cX11_read 12 = .ok (.iload_n 1, 1) := by decide +kernel
theorem dX11_read_13 : decode cX11_read 13 = .ok (.ifCond .ge 14, 3) := by decide +kernel
theorem dX11_read_16 : decode cX11_read 16 = .ok (.bipush (-10), 2) := by decide +kernel
theorem dX11_read_18 : decode cX11_read 18 = .ok (.aload_n 0, 1) := by decide +kernel
theorem dX11_read_19 : decode cX11_read 19 = .ok (.getfield 27, 3) := by decide +kernel
theorem dX11_read_22 : decode cX11_read 22 = .ok (.getfield 111, 3) := by decide +kernel
theorem dX11_read_25 : decode cX11_read 25 = .ok (.isub, 1) := by decide +kernel
theorem dX11_read_26 : decode cX11_read 26 = .ok (.ireturn, 1) := by decide +kernel
theorem dX11_read_27 : decode cX11_read 27 = .ok (.aload_n 0, 1) := by decide +kernel
theorem dX11_read_28 : decode cX11_read 28 = .ok (.getfield 10, 3) := by decide +kernel
theorem dX11_read_31 : decode cX11_read 31 = .ok (.aload_n 0, 1) := by decide +kernel
theorem dX11_read_32 : decode cX11_read 32 = .ok (.getfield 34, 3) := by decide +kernel
theorem dX11_read_35 : decode cX11_read 35 = .ok (.getfield 114, 3) := by decide +kernel
theorem dX11_read_38 : decode cX11_read 38 = .ok (.invokevirtual 117, 3) := by decide +kernel
theorem dX11_read_41 : decode cX11_read 41 = .ok (.iload_n 1, 1) := by decide +kernel
theorem dX11_read_42 : decode cX11_read 42 = .ok (.ireturn, 1) := by decide +kernel
set_option maxRecDepth 20000 in
theorem ggX11_days_X11_within : GoodIn wsX11_days wsX11_within := goodIn_r _ [6] (by decide +kernel) (by decide +kernel)
set_option maxRecDepth 20000 in
theorem gX11_days_X11_within : GoodIn wsX11_days (va_wsS RX11 66 yX11_within wsX11_within) := goodIn_app (goodIn_of _ (by decide +kernel)) ggX11_days_X11_within
set_option maxRecDepth 20000 in
theorem ggX11_days_X11_bad : GoodIn wsX11_days wsX11_bad := goodIn_r _ [10, 11, 51, 52, 53, 54, 55, 56, 57, 58, 59, 60, 61] (by decide +kernel) (by decide +kernel)
set_option maxRecDepth 20000 in
theorem gX11_days_X11_bad : GoodIn wsX11_days (wsV RX11 70 RX11 yX11_bad wsX11_bad) := goodIn_app (goodIn_of _ (by decide +kernel)) ggX11_days_X11_bad
set_option maxRecDepth 20000 in
theorem ggX11_days_X10_remember : GoodIn wsX11_days wsX10_remember := goodIn_r _ [16, 17, 18, 19, 20, 21, 22, 23, 24, 25, 26, 27, 28, 29, 30, 31, 32, 62, 63, 64, 65, 66, 67, 68, 69, 70, 71, 72, 73, 74, 75, 76, 77, 78] (by decide +kernel) (by decide +kernel)
set_option maxRecDepth 20000 in
theorem gX11_days_X10_remember : GoodIn wsX11_days (wsV RX11 121 RX10 yX10_remember wsX10_remember) := goodIn_app (goodIn_of _ (by decide +kernel)) ggX11_days_X10_remember
set_option maxRecDepth 20000 in
theorem ggX11_days_X10_pass : GoodIn wsX11_days wsX10_pass := goodIn_r _ [36, 37, 38, 39, 40, 41, 42, 43, 44, 45, 5, 46, 47, 48, 49, 15, 50, 62, 63, 64, 65, 66, 67, 68, 69, 70, 71, 72, 73, 74, 75, 76] (by decide +kernel) (by decide +kernel)
set_option maxRecDepth 20000 in
theorem gX11_days_X10_pass : GoodIn wsX11_days (wsV RX11 124 RX10 yX10_pass wsX10_pass) := goodIn_app (goodIn_of _ (by decide +kernel)) ggX11_days_X10_pass
theorem dX11_days_0 : decode cX11_days 0 = .ok (.iload_n 1, 1) := by decide +kernel
theorem dX11_days_1 : decode cX11_days 1 = .ok (.iconst 1, 1) := by decide +kernel
theorem dX11_days_2 : decode cX11_days 2 = .ok (.bipush 60, 2) := by decide +kernel
theorem dX11_days_4 : decode cX11_days 4 = .ok (.invokestatic 66, 3) := by decide +kernel
theorem dX11_days_7 : decode cX11_days 7 = .ok (.ifCond .ne 8, 3) := by decide +kernel
theorem dX11_days_10 : decode cX11_days 10 = .ok (.aload_n 0, 1) := by decide +kernel
theorem dX11_days_11 : decode cX11_days 11 = .ok (.invokevirtual 70, 3) := by decide +kernel
theorem dX11_days_14 : decode cX11_days 14 = .ok (.ireturn, 1) := by decide +kernel
theorem dX11_days_15 : decode cX11_days 15 = .ok (.aload_n 0, 1) := by decide +kernel
theorem dX11_days_16 : decode cX11_days 16 = .ok (.getfield 10, 3) := by decide +kernel
theorem dX11_days_19 : decode cX11_days 19 = .ok (.invokevirtual 121, 3) := by decide +kernel
theorem dX11_days_22 : decode cX11_days 22 = .ok (.aload_n 0, 1) := by decide +kernel
theorem dX11_days_23 : decode cX11_days 23 = .ok (.getfield 10, 3) := by decide +kernel
theorem dX11_days_26 : decode cX11_days 26 = .ok (.iload_n 1, 1) := by decide +kernel
theorem dX11_days_27 : decode cX11_days 27 = .ok (.invokevirtual 124, 3) := by decide +kernel
theorem dX11_days_30 : decode cX11_days 30 = .ok (.aload_n 0, 1) := by decide +kernel
theorem dX11_days_31 : decode cX11_days 31 = .ok (.getfield 10, 3) := by decide +kernel
theorem dX11_days_34 : decode cX11_days 34 = .ok (.getfield 128, 3) := by decide +kernel
theorem dX11_days_37 : decode cX11_days 37 = .ok (.ireturn, 1) := by decide +kernel
set_option maxRecDepth 20000 in
theorem ggX11_rings_X10_hasWrong : GoodIn wsX11_rings wsX10_hasWrong := goodIn_r _ [6, 7, 8, 9, 10, 98, 99, 100, 101, 102, 103, 104, 105, 106, 107, 108, 109, 110, 111, 112] (by decide +kernel) (by decide +kernel)
set_option maxRecDepth 20000 in
theorem gX11_rings_X10_hasWrong : GoodIn wsX11_rings (wsV RX11 131 RX10 yX10_hasWrong wsX10_hasWrong) := goodIn_app (goodIn_of _ (by decide +kernel)) ggX11_rings_X10_hasWrong
set_option maxRecDepth 20000 in
theorem ggX11_rings_X11_bad : GoodIn wsX11_rings wsX11_bad := goodIn_r _ [14, 15, 87, 88, 89, 90, 91, 92, 93, 94, 95, 96, 97] (by decide +kernel) (by decide +kernel)
set_option maxRecDepth 20000 in
theorem gX11_rings_X11_bad : GoodIn wsX11_rings (wsV RX11 70 RX11 yX11_bad wsX11_bad) := goodIn_app (goodIn_of _ (by decide +kernel)) ggX11_rings_X11_bad
set_option maxRecDepth 20000 in
theorem ggX11_rings_X10_could : GoodIn wsX11_rings wsX10_could := goodIn_r _ [19, 20, 21, 22, 9, 23, 24, 25, 26, 5, 27, 28, 29, 30, 31, 32, 33, 34, 35, 36, 37, 38, 39, 40, 41, 42, 43, 44, 45, 46, 47, 48, 49, 50, 51, 7, 52, 53, 54, 55, 56, 57, 98, 99, 100, 101, 102, 103, 104, 105, 106, 107, 108, 109, 110, 111, 112] (by decide +kernel) (by decide +kernel)
set_option maxRecDepth 20000 in
theorem gX11_rings_X10_could : GoodIn wsX11_rings (wsV RX11 134 RX10 yX10_could wsX10_could) := goodIn_app (goodIn_of _ (by decide +kernel)) ggX11_rings_X10_could
set_option maxRecDepth 20000 in
theorem ggX11_rings_X11_no : GoodIn wsX11_rings wsX11_no := goodIn_r _ [61, 62, 87, 88, 89, 90, 91, 92, 93, 94, 95, 96, 97] (by decide +kernel) (by decide +kernel)
set_option maxRecDepth 20000 in
theorem gX11_rings_X11_no : GoodIn wsX11_rings (wsV RX11 138 RX11 yX11_no wsX11_no) := goodIn_app (goodIn_of _ (by decide +kernel)) ggX11_rings_X11_no
set_option maxRecDepth 20000 in
theorem ggX11_rings_X10_remember : GoodIn wsX11_rings wsX10_remember := goodIn_r _ [66, 67, 68, 69, 70, 71, 72, 73, 74, 75, 76, 77, 78, 79, 80, 81, 82, 98, 99, 100, 101, 102, 103, 104, 105, 106, 107, 108, 109, 110, 111, 112, 113, 114] (by decide +kernel) (by decide +kernel)
set_option maxRecDepth 20000 in
theorem gX11_rings_X10_remember : GoodIn wsX11_rings (wsV RX11 121 RX10 yX10_remember wsX10_remember) := goodIn_app (goodIn_of _ (by decide +kernel)) ggX11_rings_X10_remember
set_option maxRecDepth 20000 in
theorem ggX11_rings_X10_stroke : GoodIn wsX11_rings wsX10_stroke := goodIn_r _ [86, 52, 20, 51, 98, 99, 100, 101, 102, 103, 104, 105, 106, 107, 108, 109, 110, 111, 112] (by decide +kernel) (by decide +kernel)
set_option maxRecDepth 20000 in
theorem gX11_rings_X10_stroke : GoodIn wsX11_rings (wsV RX11 141 RX10 yX10_stroke wsX10_stroke) := goodIn_app (goodIn_of _ (by decide +kernel)) ggX11_rings_X10_stroke
theorem dX11_rings_0 : decode cX11_rings 0 = .ok (.aload_n 0, 1) := by decide +kernel
theorem dX11_rings_1 : decode cX11_rings 1 = .ok (.getfield 10, 3) := by decide +kernel
theorem dX11_rings_4 : decode cX11_rings 4 = .ok (.iload_n 1, 1) := by decide +kernel
theorem dX11_rings_5 : decode cX11_rings 5 = .ok (.invokevirtual 131, 3) := by decide +kernel
theorem dX11_rings_8 : decode cX11_rings 8 = .ok (.ifCond .ne 8, 3) := by decide +kernel
theorem dX11_rings_11 : decode cX11_rings 11 = .ok (.aload_n 0, 1) := by decide +kernel
theorem dX11_rings_12 : decode cX11_rings 12 = .ok (.invokevirtual 70, 3) := by decide +kernel
theorem dX11_rings_15 : decode cX11_rings 15 = .ok (.ireturn, 1) := by decide +kernel
theorem dX11_rings_16 : decode cX11_rings 16 = .ok (.aload_n 0, 1) := by decide +kernel
theorem dX11_rings_17 : decode cX11_rings 17 = .ok (.getfield 10, 3) := by decide +kernel
theorem dX11_rings_20 : decode cX11_rings 20 = .ok (.iload_n 1, 1) := by decide +kernel
theorem dX11_rings_21 : decode cX11_rings 21 = .ok (.iconst 0, 1) := by decide +kernel
theorem dX11_rings_22 : decode cX11_rings 22 = .ok (.iconst 0, 1) := by decide +kernel
theorem dX11_rings_23 : decode cX11_rings 23 = .ok (.iconst 0, 1) := by decide +kernel
theorem dX11_rings_24 : decode cX11_rings 24 = .ok (.invokevirtual 134, 3) := by decide +kernel
theorem dX11_rings_27 : decode cX11_rings 27 = .ok (.ifCond .ne 8, 3) := by decide +kernel
theorem dX11_rings_30 : decode cX11_rings 30 = .ok (.aload_n 0, 1) := by decide +kernel
theorem dX11_rings_31 : decode cX11_rings 31 = .ok (.invokevirtual 138, 3) := by decide +kernel
theorem dX11_rings_34 : decode cX11_rings 34 = .ok (.ireturn, 1) := by decide +kernel
theorem dX11_rings_35 : decode cX11_rings 35 = .ok (.aload_n 0, 1) := by decide +kernel
theorem dX11_rings_36 : decode cX11_rings 36 = .ok (.getfield 10, 3) := by decide +kernel
theorem dX11_rings_39 : decode cX11_rings 39 = .ok (.invokevirtual 121, 3) := by decide +kernel
theorem dX11_rings_42 : decode cX11_rings 42 = .ok (.aload_n 0, 1) := by decide +kernel
theorem dX11_rings_43 : decode cX11_rings 43 = .ok (.getfield 10, 3) := by decide +kernel
theorem dX11_rings_46 : decode cX11_rings 46 = .ok (.iload_n 1, 1) := by decide +kernel
theorem dX11_rings_47 : decode cX11_rings 47 = .ok (.invokevirtual 141, 3) := by decide +kernel
theorem dX11_rings_50 : decode cX11_rings 50 = .ok (.ireturn, 1) := by decide +kernel
set_option maxRecDepth 20000 in
theorem ggX11_undo_X11_no : GoodIn wsX11_undo wsX11_no := goodIn_r _ [9, 10, 32, 33, 34, 35, 36, 37, 38, 39, 40, 41, 42] (by decide +kernel) (by decide +kernel)
set_option maxRecDepth 20000 in
theorem gX11_undo_X11_no : GoodIn wsX11_undo (wsV RX11 138 RX11 yX11_no wsX11_no) := goodIn_app (goodIn_of _ (by decide +kernel)) ggX11_undo_X11_no
set_option maxRecDepth 20000 in
theorem ggX11_undo_X10_goBack : GoodIn wsX11_undo wsX10_goBack := goodIn_r _ [15, 16, 17, 18, 19, 20, 21, 22, 23, 24, 25, 26, 27, 28, 29, 30, 31, 43, 44, 45, 46, 47, 48, 49, 50, 51, 52, 53, 54, 55, 56, 57, 58, 59] (by decide +kernel) (by decide +kernel)
set_option maxRecDepth 20000 in
theorem gX11_undo_X10_goBack : GoodIn wsX11_undo (wsV RX11 144 RX10 yX10_goBack wsX10_goBack) := goodIn_app (goodIn_of _ (by decide +kernel)) ggX11_undo_X10_goBack
theorem dX11_undo_0 : decode cX11_undo 0 = .ok (.aload_n 0, 1) := by decide +kernel
theorem dX11_undo_1 : decode cX11_undo 1 = .ok (.getfield 10, 3) := by decide +kernel
theorem dX11_undo_4 : decode cX11_undo 4 = .ok (.getfield 77, 3) := by decide +kernel
theorem dX11_undo_7 : decode cX11_undo 7 = .ok (.getfield 81, 3) := by decide +kernel
theorem dX11_undo_10 : decode cX11_undo 10 = .ok (.ifCond .ne 8, 3) := by decide +kernel
theorem dX11_undo_13 : decode cX11_undo 13 = .ok (.aload_n 0, 1) := by decide +kernel
theorem dX11_undo_14 : decode cX11_undo 14 = .ok (.invokevirtual 138, 3) := by decide +kernel
theorem dX11_undo_17 : decode cX11_undo 17 = .ok (.ireturn, 1) := by decide +kernel
theorem dX11_undo_18 : decode cX11_undo 18 = .ok (.aload_n 0, 1) := by decide +kernel
theorem dX11_undo_19 : decode cX11_undo 19 = .ok (.getfield 10, 3) := by decide +kernel
theorem dX11_undo_22 : decode cX11_undo 22 = .ok (.invokevirtual 144, 3) := by decide +kernel
theorem dX11_undo_25 : decode cX11_undo 25 = .ok (.aload_n 0, 1) := by decide +kernel
theorem dX11_undo_26 : decode cX11_undo 26 = .ok (.getfield 10, 3) := by decide +kernel
theorem dX11_undo_29 : decode cX11_undo 29 = .ok (.getfield 128, 3) := by decide +kernel
theorem dX11_undo_32 : decode cX11_undo 32 = .ok (.ireturn, 1) := by decide +kernel
set_option maxRecDepth 20000 in
theorem ggX11_of_X10_hasPerson : GoodIn wsX11_of wsX10_hasPerson := goodIn_r _ [8, 9, 10, 11, 12, 54, 55, 56, 57, 58, 59, 60, 61, 62, 63, 64, 65, 66, 67, 68] (by decide +kernel) (by decide +kernel)
set_option maxRecDepth 20000 in
theorem gX11_of_X10_hasPerson : GoodIn wsX11_of (wsV RX11 90 RX10 yX10_hasPerson wsX10_hasPerson) := goodIn_app (goodIn_of _ (by decide +kernel)) ggX11_of_X10_hasPerson
set_option maxRecDepth 20000 in
theorem ggX11_of_X11_within : GoodIn wsX11_of wsX11_within := goodIn_r _ [12] (by decide +kernel) (by decide +kernel)
set_option maxRecDepth 20000 in
theorem gX11_of_X11_within : GoodIn wsX11_of (va_wsS RX11 66 yX11_within wsX11_within) := goodIn_app (goodIn_of _ (by decide +kernel)) ggX11_of_X11_within
set_option maxRecDepth 20000 in
theorem ggX11_of_X11_bad : GoodIn wsX11_of wsX11_bad := goodIn_r _ [17, 18, 43, 44, 45, 46, 47, 48, 49, 50, 51, 52, 53] (by decide +kernel) (by decide +kernel)
set_option maxRecDepth 20000 in
theorem gX11_of_X11_bad : GoodIn wsX11_of (wsV RX11 70 RX11 yX11_bad wsX11_bad) := goodIn_app (goodIn_of _ (by decide +kernel)) ggX11_of_X11_bad
set_option maxRecDepth 20000 in
theorem ggX11_of_X10_mercy : GoodIn wsX11_of wsX10_mercy := goodIn_r _ [22, 23, 24, 25, 26, 27, 28, 11, 29, 30, 31, 32, 33, 34, 35, 36, 37, 54, 55, 56, 57, 58, 59, 60, 61, 62, 63, 64, 65, 66, 67, 68] (by decide +kernel) (by decide +kernel)
set_option maxRecDepth 20000 in
theorem gX11_of_X10_mercy : GoodIn wsX11_of (wsV RX11 154 RX10 yX10_mercy wsX10_mercy) := goodIn_app (goodIn_of _ (by decide +kernel)) ggX11_of_X10_mercy
set_option maxRecDepth 20000 in
theorem ggX11_of_X10_isGuilty : GoodIn wsX11_of wsX10_isGuilty := goodIn_r _ [41, 24, 25, 42, 28, 11, 29, 54, 55, 56, 57, 58, 59, 60, 61, 62, 63, 64, 65, 66, 67, 68] (by decide +kernel) (by decide +kernel)
set_option maxRecDepth 20000 in
theorem gX11_of_X10_isGuilty : GoodIn wsX11_of (wsV RX11 158 RX10 yX10_isGuilty wsX10_isGuilty) := goodIn_app (goodIn_of _ (by decide +kernel)) ggX11_of_X10_isGuilty
theorem dX11_of_0 : decode cX11_of 0 = .ok (.aload_n 0, 1) := by decide +kernel
theorem dX11_of_1 : decode cX11_of 1 = .ok (.getfield 10, 3) := by decide +kernel
theorem dX11_of_4 : decode cX11_of 4 = .ok (.iload_n 1, 1) := by decide +kernel
theorem dX11_of_5 : decode cX11_of 5 = .ok (.invokevirtual 90, 3) := by decide +kernel
theorem dX11_of_8 : decode cX11_of 8 = .ok (.ifCond .eq 12, 3) := by decide +kernel
theorem dX11_of_11 : decode cX11_of 11 = .ok (.iload_n 2, 1) := by decide +kernel
theorem dX11_of_12 : decode cX11_of 12 = .ok (.iconst 0, 1) := by decide +kernel
theorem dX11_of_13 : decode cX11_of 13 = .ok (.iconst 3, 1) := by decide +kernel
theorem dX11_of_14 : decode cX11_of 14 = .ok (.invokestatic 66, 3) := by decide +kernel
theorem dX11_of_17 : decode cX11_of 17 = .ok (.ifCond .ne 8, 3) := by decide +kernel
theorem dX11_of_20 : decode cX11_of 20 = .ok (.aload_n 0, 1) := by decide +kernel
theorem dX11_of_21 : decode cX11_of 21 = .ok (.invokevirtual 70, 3) := by decide +kernel
theorem dX11_of_24 : decode cX11_of 24 = .ok (.ireturn, 1) := by decide +kernel
theorem dX11_of_25 : decode cX11_of 25 = .ok (.iload_n 2, 1) := by decide +kernel
theorem dX11_of_26 : decode cX11_of 26 = .ok (.tableswitch 57 0 2 #[26, 36, 46], 26) := by decide +kernel
theorem dX11_of_52 : decode cX11_of 52 = .ok (.aload_n 0, 1) := by decide +kernel
theorem dX11_of_53 : decode cX11_of 53 = .ok (.getfield 10, 3) := by decide +kernel
theorem dX11_of_56 : decode cX11_of 56 = .ok (.getfield 147, 3) := by decide +kernel
theorem dX11_of_59 : decode cX11_of 59 = .ok (.iload_n 1, 1) := by decide +kernel
theorem dX11_of_60 : decode cX11_of 60 = .ok (.iaload, 1) := by decide +kernel
theorem dX11_of_61 : decode cX11_of 61 = .ok (.ireturn, 1) := by decide +kernel
theorem dX11_of_62 : decode cX11_of 62 = .ok (.aload_n 0, 1) := by decide +kernel
theorem dX11_of_63 : decode cX11_of 63 = .ok (.getfield 10, 3) := by decide +kernel
theorem dX11_of_66 : decode cX11_of 66 = .ok (.getfield 151, 3) := by decide +kernel
theorem dX11_of_69 : decode cX11_of 69 = .ok (.iload_n 1, 1) := by decide +kernel
theorem dX11_of_70 : decode cX11_of 70 = .ok (.iaload, 1) := by decide +kernel
theorem dX11_of_71 : decode cX11_of 71 = .ok (.ireturn, 1) := by decide +kernel
theorem dX11_of_72 : decode cX11_of 72 = .ok (.aload_n 0, 1) := by decide +kernel
theorem dX11_of_73 : decode cX11_of 73 = .ok (.getfield 10, 3) := by decide +kernel
theorem dX11_of_76 : decode cX11_of 76 = .ok (.iload_n 1, 1) := by decide +kernel
theorem dX11_of_77 : decode cX11_of 77 = .ok (.iconst 0, 1) := by decide +kernel
theorem dX11_of_78 : decode cX11_of 78 = .ok (.iconst 0, 1) := by decide +kernel
theorem dX11_of_79 : decode cX11_of 79 = .ok (.invokevirtual 154, 3) := by decide +kernel
theorem dX11_of_82 : decode cX11_of 82 = .ok (.ireturn, 1) := by decide +kernel
theorem dX11_of_83 : decode cX11_of 83 = .ok (.aload_n 0, 1) := by decide +kernel
theorem dX11_of_84 : decode cX11_of 84 = .ok (.getfield 10, 3) := by decide +kernel
theorem dX11_of_87 : decode cX11_of 87 = .ok (.iload_n 1, 1) := by decide +kernel
theorem dX11_of_88 : decode cX11_of 88 = .ok (.invokevirtual 158, 3) := by decide +kernel
theorem dX11_of_91 : decode cX11_of 91 = .ok (.ifCond .eq 7, 3) := by decide +kernel
theorem dX11_of_94 : decode cX11_of 94 = .ok (.iconst 1, 1) := by decide +kernel
theorem dX11_of_95 : decode cX11_of 95 = .ok (.goto 4, 3) := by decide +kernel
theorem dX11_of_98 : decode cX11_of 98 = .ok (.iconst 0, 1) := by decide +kernel
theorem dX11_of_99 : decode cX11_of 99 = .ok (.ireturn, 1) := by decide +kernel
set_option maxRecDepth 20000 in
theorem ggX11_about_X10_hasWrong : GoodIn wsX11_about wsX10_hasWrong := goodIn_r _ [6, 7, 8, 9, 10, 60, 61, 62, 63, 64, 65, 66, 67, 68, 69, 70, 71, 72, 73, 74] (by decide +kernel) (by decide +kernel)
set_option maxRecDepth 20000 in
theorem gX11_about_X10_hasWrong : GoodIn wsX11_about (wsV RX11 131 RX10 yX10_hasWrong wsX10_hasWrong) := goodIn_app (goodIn_of _ (by decide +kernel)) ggX11_about_X10_hasWrong
set_option maxRecDepth 20000 in
theorem ggX11_about_X11_within : GoodIn wsX11_about wsX11_within := goodIn_r _ [10] (by decide +kernel) (by decide +kernel)
set_option maxRecDepth 20000 in
theorem gX11_about_X11_within : GoodIn wsX11_about (va_wsS RX11 66 yX11_within wsX11_within) := goodIn_app (goodIn_of _ (by decide +kernel)) ggX11_about_X11_within
set_option maxRecDepth 20000 in
theorem ggX11_about_X11_bad : GoodIn wsX11_about wsX11_bad := goodIn_r _ [15, 16, 49, 50, 51, 52, 53, 54, 55, 56, 57, 58, 59] (by decide +kernel) (by decide +kernel)
set_option maxRecDepth 20000 in
theorem gX11_about_X11_bad : GoodIn wsX11_about (wsV RX11 70 RX11 yX11_bad wsX11_bad) := goodIn_app (goodIn_of _ (by decide +kernel)) ggX11_about_X11_bad
set_option maxRecDepth 20000 in
theorem ggX11_about_X10_told : GoodIn wsX11_about wsX10_told := goodIn_r _ [20, 21, 22, 23, 24, 25, 26, 27, 9, 28, 29, 30, 31, 5, 32, 33, 34, 35, 36, 37, 38, 39, 40, 41, 42, 43, 44, 45, 46, 47, 48, 60, 61, 62, 63, 64, 65, 66, 67, 68, 69, 70, 71, 72, 73, 74] (by decide +kernel) (by decide +kernel)
set_option maxRecDepth 20000 in
theorem gX11_about_X10_told : GoodIn wsX11_about (wsV RX11 161 RX10 yX10_told wsX10_told) := goodIn_app (goodIn_of _ (by decide +kernel)) ggX11_about_X10_told
theorem dX11_about_0 : decode cX11_about 0 = .ok (.aload_n 0, 1) := by decide +kernel
theorem dX11_about_1 : decode cX11_about 1 = .ok (.getfield 10, 3) := by decide +kernel
theorem dX11_about_4 : decode cX11_about 4 = .ok (.iload_n 1, 1) := by decide +kernel
theorem dX11_about_5 : decode cX11_about 5 = .ok (.invokevirtual 131, 3) := by decide +kernel
theorem dX11_about_8 : decode cX11_about 8 = .ok (.ifCond .eq 13, 3) := by decide +kernel
theorem dX11_about_11 : decode cX11_about 11 = .ok (.iload_n 2, 1) := by decide +kernel
theorem dX11_about_12 : decode cX11_about 12 = .ok (.iconst 0, 1) := by decide +kernel
theorem dX11_about_13 : decode cX11_about 13 = .ok (.bipush 6, 2) := by decide +kernel
theorem dX11_about_15 : decode cX11_about 15 = .ok (.invokestatic 66, 3) := by decide +kernel
theorem dX11_about_18 : decode cX11_about 18 = .ok (.ifCond .ne 8, 3) := by decide +kernel
theorem dX11_about_21 : decode cX11_about 21 = .ok (.aload_n 0, 1) := by decide +kernel
theorem dX11_about_22 : decode cX11_about 22 = .ok (.invokevirtual 70, 3) := by decide +kernel
theorem dX11_about_25 : decode cX11_about 25 = .ok (.ireturn, 1) := by decide +kernel
theorem dX11_about_26 : decode cX11_about 26 = .ok (.aload_n 0, 1) := by decide +kernel
theorem dX11_about_27 : decode cX11_about 27 = .ok (.getfield 10, 3) := by decide +kernel
theorem dX11_about_30 : decode cX11_about 30 = .ok (.iload_n 1, 1) := by decide +kernel
theorem dX11_about_31 : decode cX11_about 31 = .ok (.iload_n 2, 1) := by decide +kernel
theorem dX11_about_32 : decode cX11_about 32 = .ok (.invokevirtual 161, 3) := by decide +kernel
theorem dX11_about_35 : decode cX11_about 35 = .ok (.ireturn, 1) := by decide +kernel
set_option maxRecDepth 20000 in
theorem ggX11_may_X8_possible : GoodIn wsX11_may wsX8_possible := goodIn_r _ [5, 6, 7, 8, 9, 10, 11, 12, 13, 14, 15, 16, 17, 18, 19, 20, 21, 22, 23, 24, 25, 26, 27, 28, 29, 30, 31, 32, 33, 34, 35, 36, 37, 38, 39, 40, 41, 42, 43, 44, 45, 46, 47, 48, 49, 50, 51, 63, 64, 65, 66, 67, 68, 69, 70, 71, 72, 73, 74, 75, 76, 77] (by decide +kernel) (by decide +kernel)
set_option maxRecDepth 20000 in
theorem gX11_may_X8_possible : GoodIn wsX11_may (va_wsS RX11 165 yX8_possible wsX8_possible) := goodIn_app (goodIn_of _ (by decide +kernel)) ggX11_may_X8_possible
theorem dX11_may_0 : decode cX11_may 0 = .ok (.aload_n 0, 1) := by decide +kernel
theorem dX11_may_1 : decode cX11_may 1 = .ok (.getfield 10, 3) := by decide +kernel
theorem dX11_may_4 : decode cX11_may 4 = .ok (.invokestatic 165, 3) := by decide +kernel
theorem dX11_may_7 : decode cX11_may 7 = .ok (.ireturn, 1) := by decide +kernel
set_option maxRecDepth 20000 in
theorem ggX11_peal_X8_allWithout : GoodIn wsX11_peal wsX8_allWithout := goodIn_r _ [5, 6, 7, 8, 9, 10, 11, 12, 13, 14, 15, 16, 17, 18, 19, 20, 21, 22, 23, 24, 25, 26, 27, 28, 29, 30, 31, 32, 33, 34, 35, 36, 37, 38, 39, 40, 41, 42, 43, 44, 45, 46, 47, 48, 49, 50, 51, 63, 64, 65, 66, 67, 68, 69, 70, 71, 72, 73, 74, 75, 76, 77] (by decide +kernel) (by decide +kernel)
set_option maxRecDepth 20000 in
theorem gX11_peal_X8_allWithout : GoodIn wsX11_peal (va_wsS RX11 171 yX8_allWithout wsX8_allWithout) := goodIn_app (goodIn_of _ (by decide +kernel)) ggX11_peal_X8_allWithout
theorem dX11_peal_0 : decode cX11_peal 0 = .ok (.aload_n 0, 1) := by decide +kernel
theorem dX11_peal_1 : decode cX11_peal 1 = .ok (.getfield 10, 3) := by decide +kernel
theorem dX11_peal_4 : decode cX11_peal 4 = .ok (.iconst 0, 1) := by decide +kernel
theorem dX11_peal_5 : decode cX11_peal 5 = .ok (.invokestatic 171, 3) := by decide +kernel
theorem dX11_peal_8 : decode cX11_peal 8 = .ok (.ireturn, 1) := by decide +kernel
set_option maxRecDepth 20000 in
theorem ggX11_when_X10_hasWrong : GoodIn wsX11_when wsX10_hasWrong := goodIn_r _ [6, 7, 8, 9, 10, 73, 74, 75, 76, 77, 78, 79, 80, 81, 82, 83, 84, 85, 86, 87] (by decide +kernel) (by decide +kernel)
set_option maxRecDepth 20000 in
theorem gX11_when_X10_hasWrong : GoodIn wsX11_when (wsV RX11 131 RX10 yX10_hasWrong wsX10_hasWrong) := goodIn_app (goodIn_of _ (by decide +kernel)) ggX11_when_X10_hasWrong
set_option maxRecDepth 20000 in
theorem ggX11_when_X8_daysUntil : GoodIn wsX11_when wsX8_daysUntil := goodIn_r _ [14, 15, 16, 17, 5, 18, 19, 20, 21, 9, 22, 23, 24, 25, 26, 27, 28, 29, 30, 31, 32, 33, 34, 35, 36, 37, 38, 39, 40, 41, 42, 43, 44, 45, 46, 47, 48, 49, 50, 7, 51, 52, 53, 54, 55, 56, 73, 74, 75, 76, 77, 78, 79, 80, 81, 82, 83, 84, 85, 86, 87] (by decide +kernel) (by decide +kernel)
set_option maxRecDepth 20000 in
theorem gX11_when_X8_daysUntil : GoodIn wsX11_when (va_wsS RX11 175 yX8_daysUntil wsX8_daysUntil) := goodIn_app (goodIn_of _ (by decide +kernel)) ggX11_when_X8_daysUntil
set_option maxRecDepth 20000 in
theorem ggX11_when_X11_bad : GoodIn wsX11_when wsX11_bad := goodIn_r _ [60, 61, 62, 63, 64, 65, 66, 67, 68, 69, 70, 71, 72] (by decide +kernel) (by decide +kernel)
set_option maxRecDepth 20000 in
theorem gX11_when_X11_bad : GoodIn wsX11_when (wsV RX11 70 RX11 yX11_bad wsX11_bad) := goodIn_app (goodIn_of _ (by decide +kernel)) ggX11_when_X11_bad
theorem dX11_when_0 : decode cX11_when 0 = .ok (.aload_n 0, 1) := by decide +kernel
theorem dX11_when_1 : decode cX11_when 1 = .ok (.getfield 10, 3) := by decide +kernel
theorem dX11_when_4 : decode cX11_when 4 = .ok (.iload_n 1, 1) := by decide +kernel
theorem dX11_when_5 : decode cX11_when 5 = .ok (.invokevirtual 131, 3) := by decide +kernel
theorem dX11_when_8 : decode cX11_when 8 = .ok (.ifCond .eq 14, 3) := by decide +kernel
theorem dX11_when_11 : decode cX11_when 11 = .ok (.aload_n 0, 1) := by decide +kernel
theorem dX11_when_12 : decode cX11_when 12 = .ok (.getfield 10, 3) := by decide +kernel
theorem dX11_when_15 : decode cX11_when 15 = .ok (.iload_n 1, 1) := by decide +kernel
theorem dX11_when_16 : decode cX11_when 16 = .ok (.invokestatic 175, 3) := by decide +kernel
theorem dX11_when_19 : decode cX11_when 19 = .ok (.goto 7, 3) := by decide +kernel
theorem dX11_when_22 : decode cX11_when 22 = .ok (.aload_n 0, 1) := by decide +kernel
theorem dX11_when_23 : decode cX11_when 23 = .ok (.invokevirtual 70, 3) := by decide +kernel
theorem dX11_when_26 : decode cX11_when 26 = .ok (.ireturn, 1) := by decide +kernel
set_option maxRecDepth 20000 in
theorem ggX11_few_X10_hasWrong : GoodIn wsX11_few wsX10_hasWrong := goodIn_r _ [7, 8, 9, 10, 11, 95, 96, 97, 98, 99, 100, 101, 102, 103, 104, 105, 106, 107, 108, 109] (by decide +kernel) (by decide +kernel)
set_option maxRecDepth 20000 in
theorem gX11_few_X10_hasWrong : GoodIn wsX11_few (wsV RX11 131 RX10 yX10_hasWrong wsX10_hasWrong) := goodIn_app (goodIn_of _ (by decide +kernel)) ggX11_few_X10_hasWrong
set_option maxRecDepth 20000 in
theorem ggX11_few_X11_bad : GoodIn wsX11_few wsX11_bad := goodIn_r _ [15, 16, 84, 85, 86, 87, 88, 89, 90, 91, 92, 93, 94] (by decide +kernel) (by decide +kernel)
set_option maxRecDepth 20000 in
theorem gX11_few_X11_bad : GoodIn wsX11_few (wsV RX11 70 RX11 yX11_bad wsX11_bad) := goodIn_app (goodIn_of _ (by decide +kernel)) ggX11_few_X11_bad
set_option maxRecDepth 20000 in
theorem ggX11_few_X6_size : GoodIn wsX11_few wsX6_size := goodIn_r _ [21, 22, 23, 24, 10, 25, 26, 27, 28, 6, 29, 8, 30, 31, 32, 20, 33, 34, 35, 36, 37, 38, 39, 40, 41, 42, 43, 44, 45, 46, 47, 48, 49, 50, 51, 52, 53, 54, 55, 56, 57, 58, 59, 60, 61, 62, 63, 64, 65, 66, 67, 68, 69, 70, 71, 72, 73, 74, 75, 95, 96, 97, 98, 99, 100, 101, 102, 103, 104, 105, 106, 107, 108, 109, 110] (by decide +kernel) (by decide +kernel)
set_option maxRecDepth 20000 in
theorem gX11_few_X6_size : GoodIn wsX11_few (wsV RX11 178 RX6 yX6_size wsX6_size) := goodIn_app (goodIn_of _ (by decide +kernel)) ggX11_few_X6_size
set_option maxRecDepth 20000 in
theorem ggX11_few_X6_stroke : GoodIn wsX11_few wsX6_stroke := goodIn_r _ [79, 80, 81, 82, 20, 83, 34, 23, 39, 40, 41, 6, 42, 43, 44, 24, 10, 25, 45, 46, 47, 48, 49, 50, 51, 52, 53, 54, 55, 56, 36, 37, 38, 57, 58, 59, 60, 61, 62, 63, 64, 65, 66, 67, 68, 69, 8, 70, 71, 72, 73, 74, 75, 95, 96, 97, 98, 99, 100, 101, 102, 103, 104, 105, 106, 107, 108, 109, 110] (by decide +kernel) (by decide +kernel)
set_option maxRecDepth 20000 in
theorem gX11_few_X6_stroke : GoodIn wsX11_few (wsV RX11 180 RX6 yX6_stroke wsX6_stroke) := goodIn_app (goodIn_of _ (by decide +kernel)) ggX11_few_X6_stroke
theorem dX11_few_0 : decode cX11_few 0 = .ok (.aload_n 0, 1) := by decide +kernel
theorem dX11_few_1 : decode cX11_few 1 = .ok (.getfield 10, 3) := by decide +kernel
theorem dX11_few_4 : decode cX11_few 4 = .ok (.iload_n 1, 1) := by decide +kernel
theorem dX11_few_5 : decode cX11_few 5 = .ok (.invokevirtual 131, 3) := by decide +kernel
theorem dX11_few_8 : decode cX11_few 8 = .ok (.ifCond .eq 8, 3) := by decide +kernel
theorem dX11_few_11 : decode cX11_few 11 = .ok (.iload_n 2, 1) := by decide +kernel
theorem dX11_few_12 : decode cX11_few 12 = .ok (.iconst (-1), 1) := by decide +kernel
theorem dX11_few_13 : decode cX11_few 13 = .ok (.if_icmp .ge 11, 3) := by decide +kernel
theorem dX11_few_16 : decode cX11_few 16 = .ok (.aload_n 0, 1) := by decide +kernel
theorem dX11_few_17 : decode cX11_few 17 = .ok (.invokevirtual 70, 3) := by decide +kernel
theorem dX11_few_20 : decode cX11_few 20 = .ok (.pop, 1) := by decide +kernel
theorem dX11_few_21 : decode cX11_few 21 = .ok (.bipush (-10), 2) := by decide +kernel
theorem dX11_few_23 : decode cX11_few 23 = .ok (.ireturn, 1) := by decide +kernel
theorem dX11_few_24 : decode cX11_few 24 = .ok (.aload_n 0, 1) := by decide +kernel
theorem dX11_few_25 : decode cX11_few 25 = .ok (.getfield 41, 3) := by decide +kernel
theorem dX11_few_28 : decode cX11_few 28 = .ok (.aload_n 0, 1) := by decide +kernel
theorem dX11_few_29 : decode cX11_few 29 = .ok (.getfield 10, 3) := by decide +kernel
theorem dX11_few_32 : decode cX11_few 32 = .ok (.iload_n 1, 1) := by decide +kernel
theorem dX11_few_33 : decode cX11_few 33 = .ok (.invokevirtual 178, 3) := by decide +kernel
theorem dX11_few_36 : decode cX11_few 36 = .ok (.istore_n 3, 1) := by decide +kernel
theorem dX11_few_37 : decode cX11_few 37 = .ok (.iload_n 3, 1) := by decide +kernel
theorem dX11_few_38 : decode cX11_few 38 = .ok (.bipush 100, 2) := by decide +kernel
theorem dX11_few_40 : decode cX11_few 40 = .ok (.if_icmp .ne 6, 3) := by decide +kernel
theorem dX11_few_43 : decode cX11_few 43 = .ok (.bipush (-6), 2) := by decide +kernel
theorem dX11_few_45 : decode cX11_few 45 = .ok (.ireturn, 1) := by decide +kernel
theorem dX11_few_46 : decode cX11_few 46 = .ok (.iload_n 2, 1) := by decide +kernel
theorem dX11_few_47 : decode cX11_few 47 = .ok (.iconst (-1), 1) := by decide +kernel
theorem dX11_few_48 : decode cX11_few 48 = .ok (.if_icmp .ne 5, 3) := by decide +kernel
theorem dX11_few_51 : decode cX11_few 51 = .ok (.iload_n 3, 1) := by decide +kernel
theorem dX11_few_52 : decode cX11_few 52 = .ok (.ireturn, 1) := by decide +kernel
theorem dX11_few_53 : decode cX11_few 53 = .ok (.iload_n 2, 1) := by decide +kernel
theorem dX11_few_54 : decode cX11_few 54 = .ok (.iload_n 3, 1) := by decide +kernel
theorem dX11_few_55 : decode cX11_few 55 = .ok (.if_icmp .ge 18, 3) := by decide +kernel
theorem dX11_few_58 : decode cX11_few 58 = .ok (.aload_n 0, 1) := by decide +kernel
theorem dX11_few_59 : decode cX11_few 59 = .ok (.getfield 41, 3) := by decide +kernel
theorem dX11_few_62 : decode cX11_few 62 = .ok (.aload_n 0, 1) := by decide +kernel
theorem dX11_few_63 : decode cX11_few 63 = .ok (.getfield 10, 3) := by decide +kernel
theorem dX11_few_66 : decode cX11_few 66 = .ok (.iload_n 2, 1) := by decide +kernel
theorem dX11_few_67 : decode cX11_few 67 = .ok (.invokevirtual 180, 3) := by decide +kernel
theorem dX11_few_70 : decode cX11_few 70 = .ok (.goto 5, 3) := by decide +kernel
theorem dX11_few_73 : decode cX11_few 73 = .ok (.bipush (-5), 2) := by decide +kernel
theorem dX11_few_75 : decode cX11_few 75 = .ok (.ireturn, 1) := by decide +kernel
set_option maxRecDepth 20000 in
theorem ggX11_hush_X10_hasWrong : GoodIn wsX11_hush wsX10_hasWrong := goodIn_r _ [6, 7, 8, 9, 10, 84, 85, 86, 87, 88, 89, 90, 91, 92, 93, 94, 95, 96, 97, 98] (by decide +kernel) (by decide +kernel)
set_option maxRecDepth 20000 in
theorem gX11_hush_X10_hasWrong : GoodIn wsX11_hush (wsV RX11 131 RX10 yX10_hasWrong wsX10_hasWrong) := goodIn_app (goodIn_of _ (by decide +kernel)) ggX11_hush_X10_hasWrong
set_option maxRecDepth 20000 in
theorem ggX11_hush_X8_silence : GoodIn wsX11_hush wsX8_silence := goodIn_r _ [14, 15, 16, 17, 5, 18, 19, 20, 21, 9, 22, 23, 24, 25, 26, 27, 28, 29, 30, 31, 32, 33, 34, 35, 36, 37, 38, 39, 40, 41, 42, 43, 44, 45, 46, 47, 48, 49, 50, 7, 51, 52, 53, 54, 55, 56, 57, 58, 13, 59, 60, 61, 62, 63, 64, 65, 66, 67, 84, 85, 86, 87, 88, 89, 90, 91, 92, 93, 94, 95, 96, 97, 98] (by decide +kernel) (by decide +kernel)
set_option maxRecDepth 20000 in
theorem gX11_hush_X8_silence : GoodIn wsX11_hush (va_wsS RX11 182 yX8_silence wsX8_silence) := goodIn_app (goodIn_of _ (by decide +kernel)) ggX11_hush_X8_silence
set_option maxRecDepth 20000 in
theorem ggX11_hush_X11_bad : GoodIn wsX11_hush wsX11_bad := goodIn_r _ [71, 72, 73, 74, 75, 76, 77, 78, 79, 80, 81, 82, 83] (by decide +kernel) (by decide +kernel)
set_option maxRecDepth 20000 in
theorem gX11_hush_X11_bad : GoodIn wsX11_hush (wsV RX11 70 RX11 yX11_bad wsX11_bad) := goodIn_app (goodIn_of _ (by decide +kernel)) ggX11_hush_X11_bad
theorem dX11_hush_0 : decode cX11_hush 0 = .ok (.aload_n 0, 1) := by decide +kernel
theorem dX11_hush_1 : decode cX11_hush 1 = .ok (.getfield 10, 3) := by decide +kernel
theorem dX11_hush_4 : decode cX11_hush 4 = .ok (.iload_n 1, 1) := by decide +kernel
theorem dX11_hush_5 : decode cX11_hush 5 = .ok (.invokevirtual 131, 3) := by decide +kernel
theorem dX11_hush_8 : decode cX11_hush 8 = .ok (.ifCond .eq 14, 3) := by decide +kernel
theorem dX11_hush_11 : decode cX11_hush 11 = .ok (.aload_n 0, 1) := by decide +kernel
theorem dX11_hush_12 : decode cX11_hush 12 = .ok (.getfield 10, 3) := by decide +kernel
theorem dX11_hush_15 : decode cX11_hush 15 = .ok (.iload_n 1, 1) := by decide +kernel
theorem dX11_hush_16 : decode cX11_hush 16 = .ok (.invokestatic 182, 3) := by decide +kernel
theorem dX11_hush_19 : decode cX11_hush 19 = .ok (.goto 7, 3) := by decide +kernel
theorem dX11_hush_22 : decode cX11_hush 22 = .ok (.aload_n 0, 1) := by decide +kernel
theorem dX11_hush_23 : decode cX11_hush 23 = .ok (.invokevirtual 70, 3) := by decide +kernel
theorem dX11_hush_26 : decode cX11_hush 26 = .ok (.ireturn, 1) := by decide +kernel
set_option maxRecDepth 20000 in
theorem ggX11_round_X10_hasPerson : GoodIn wsX11_round wsX10_hasPerson := goodIn_r _ [6, 7, 8, 9, 10, 41, 42, 43, 44, 45, 46, 47, 48, 49, 50, 51, 52, 53, 54, 55] (by decide +kernel) (by decide +kernel)
set_option maxRecDepth 20000 in
theorem gX11_round_X10_hasPerson : GoodIn wsX11_round (wsV RX11 90 RX10 yX10_hasPerson wsX10_hasPerson) := goodIn_app (goodIn_of _ (by decide +kernel)) ggX11_round_X10_hasPerson
set_option maxRecDepth 20000 in
theorem ggX11_round_X8_ring : GoodIn wsX11_round wsX8_ring := goodIn_r _ [14, 15, 16, 17, 13, 18, 19, 20, 21, 22, 23, 9, 24, 41, 42, 43, 44, 45, 46, 47, 48, 49, 50, 51, 52, 53, 54, 55] (by decide +kernel) (by decide +kernel)
set_option maxRecDepth 20000 in
theorem gX11_round_X8_ring : GoodIn wsX11_round (va_wsS RX11 185 yX8_ring wsX8_ring) := goodIn_app (goodIn_of _ (by decide +kernel)) ggX11_round_X8_ring
set_option maxRecDepth 20000 in
theorem ggX11_round_X11_bad : GoodIn wsX11_round wsX11_bad := goodIn_r _ [28, 29, 30, 31, 32, 33, 34, 35, 36, 37, 38, 39, 40] (by decide +kernel) (by decide +kernel)
set_option maxRecDepth 20000 in
theorem gX11_round_X11_bad : GoodIn wsX11_round (wsV RX11 70 RX11 yX11_bad wsX11_bad) := goodIn_app (goodIn_of _ (by decide +kernel)) ggX11_round_X11_bad
theorem dX11_round_0 : decode cX11_round 0 = .ok (.aload_n 0, 1) := by decide +kernel
theorem dX11_round_1 : decode cX11_round 1 = .ok (.getfield 10, 3) := by decide +kernel
theorem dX11_round_4 : decode cX11_round 4 = .ok (.iload_n 1, 1) := by decide +kernel
theorem dX11_round_5 : decode cX11_round 5 = .ok (.invokevirtual 90, 3) := by decide +kernel
theorem dX11_round_8 : decode cX11_round 8 = .ok (.ifCond .eq 14, 3) := by decide +kernel
theorem dX11_round_11 : decode cX11_round 11 = .ok (.aload_n 0, 1) := by decide +kernel
theorem dX11_round_12 : decode cX11_round 12 = .ok (.getfield 10, 3) := by decide +kernel
theorem dX11_round_15 : decode cX11_round 15 = .ok (.iload_n 1, 1) := by decide +kernel
theorem dX11_round_16 : decode cX11_round 16 = .ok (.invokestatic 185, 3) := by decide +kernel
theorem dX11_round_19 : decode cX11_round 19 = .ok (.goto 7, 3) := by decide +kernel
theorem dX11_round_22 : decode cX11_round 22 = .ok (.aload_n 0, 1) := by decide +kernel
theorem dX11_round_23 : decode cX11_round 23 = .ok (.invokevirtual 70, 3) := by decide +kernel
theorem dX11_round_26 : decode cX11_round 26 = .ok (.ireturn, 1) := by decide +kernel
set_option maxRecDepth 20000 in
theorem ggX11_seen_X10_hasWrong : GoodIn wsX11_seen wsX10_hasWrong := goodIn_r _ [7, 8, 9, 10, 11, 46, 47, 48, 49, 50, 51, 52, 53, 54, 55, 56, 57, 58, 59, 60] (by decide +kernel) (by decide +kernel)
set_option maxRecDepth 20000 in
theorem gX11_seen_X10_hasWrong : GoodIn wsX11_seen (wsV RX11 131 RX10 yX10_hasWrong wsX10_hasWrong) := goodIn_app (goodIn_of _ (by decide +kernel)) ggX11_seen_X10_hasWrong
set_option maxRecDepth 20000 in
theorem ggX11_seen_X11_within : GoodIn wsX11_seen wsX11_within := goodIn_r _ [11] (by decide +kernel) (by decide +kernel)
set_option maxRecDepth 20000 in
theorem gX11_seen_X11_within : GoodIn wsX11_seen (va_wsS RX11 66 yX11_within wsX11_within) := goodIn_app (goodIn_of _ (by decide +kernel)) ggX11_seen_X11_within
set_option maxRecDepth 20000 in
theorem ggX11_seen_X11_bad : GoodIn wsX11_seen wsX11_bad := goodIn_r _ [16, 17, 35, 36, 37, 38, 39, 40, 41, 42, 43, 44, 45] (by decide +kernel) (by decide +kernel)
set_option maxRecDepth 20000 in
theorem gX11_seen_X11_bad : GoodIn wsX11_seen (wsV RX11 70 RX11 yX11_bad wsX11_bad) := goodIn_app (goodIn_of _ (by decide +kernel)) ggX11_seen_X11_bad
set_option maxRecDepth 20000 in
theorem ggX11_seen_X7_isFull : GoodIn wsX11_seen wsX7_isFull := goodIn_r _ [22, 23, 24, 61, 62, 63] (by decide +kernel) (by decide +kernel)
set_option maxRecDepth 20000 in
theorem gX11_seen_X7_isFull : GoodIn wsX11_seen (wsV RX11 192 RX7 yX7_isFull wsX7_isFull) := goodIn_app (goodIn_of _ (by decide +kernel)) ggX11_seen_X7_isFull
set_option maxRecDepth 20000 in
theorem ggX11_seen_X11_full : GoodIn wsX11_seen wsX11_full := goodIn_r _ [28, 29, 35, 36, 37, 38, 39, 40, 41, 42, 43, 44, 45] (by decide +kernel) (by decide +kernel)
set_option maxRecDepth 20000 in
theorem gX11_seen_X11_full : GoodIn wsX11_seen (wsV RX11 74 RX11 yX11_full wsX11_full) := goodIn_app (goodIn_of _ (by decide +kernel)) ggX11_seen_X11_full
set_option maxRecDepth 20000 in
theorem ggX11_seen_X7_add : GoodIn wsX11_seen wsX7_add := goodIn_r _ [33, 23, 34, 61, 62, 63] (by decide +kernel) (by decide +kernel)
set_option maxRecDepth 20000 in
theorem gX11_seen_X7_add : GoodIn wsX11_seen (wsV RX11 198 RX7 yX7_add wsX7_add) := goodIn_app (goodIn_of _ (by decide +kernel)) ggX11_seen_X7_add
theorem dX11_seen_0 : decode cX11_seen 0 = .ok (.aload_n 0, 1) := by decide +kernel
theorem dX11_seen_1 : decode cX11_seen 1 = .ok (.getfield 10, 3) := by decide +kernel
theorem dX11_seen_4 : decode cX11_seen 4 = .ok (.iload_n 1, 1) := by decide +kernel
theorem dX11_seen_5 : decode cX11_seen 5 = .ok (.invokevirtual 131, 3) := by decide +kernel
theorem dX11_seen_8 : decode cX11_seen 8 = .ok (.ifCond .eq 33, 3) := by decide +kernel
theorem dX11_seen_11 : decode cX11_seen 11 = .ok (.iload_n 2, 1) := by decide +kernel
theorem dX11_seen_12 : decode cX11_seen 12 = .ok (.iconst 0, 1) := by decide +kernel
theorem dX11_seen_13 : decode cX11_seen 13 = .ok (.bipush 99, 2) := by decide +kernel
theorem dX11_seen_15 : decode cX11_seen 15 = .ok (.invokestatic 66, 3) := by decide +kernel
theorem dX11_seen_18 : decode cX11_seen 18 = .ok (.ifCond .eq 23, 3) := by decide +kernel
theorem dX11_seen_21 : decode cX11_seen 21 = .ok (.iload_n 3, 1) := by decide +kernel
theorem dX11_seen_22 : decode cX11_seen 22 = .ok (.iconst 0, 1) := by decide +kernel
theorem dX11_seen_23 : decode cX11_seen 23 = .ok (.bipush 40, 2) := by decide +kernel
theorem dX11_seen_25 : decode cX11_seen 25 = .ok (.invokestatic 66, 3) := by decide +kernel
theorem dX11_seen_28 : decode cX11_seen 28 = .ok (.ifCond .eq 13, 3) := by decide +kernel
theorem dX11_seen_31 : decode cX11_seen 31 = .ok (.iload 4, 2) := by decide +kernel
theorem dX11_seen_33 : decode cX11_seen 33 = .ok (.iconst 0, 1) := by decide +kernel
theorem dX11_seen_34 : decode cX11_seen 34 = .ok (.iconst 1, 1) := by decide +kernel
theorem dX11_seen_35 : decode cX11_seen 35 = .ok (.invokestatic 66, 3) := by decide +kernel
theorem dX11_seen_38 : decode cX11_seen 38 = .ok (.ifCond .ne 8, 3) := by decide +kernel
theorem dX11_seen_41 : decode cX11_seen 41 = .ok (.aload_n 0, 1) := by decide +kernel
theorem dX11_seen_42 : decode cX11_seen 42 = .ok (.invokevirtual 70, 3) := by decide +kernel
theorem dX11_seen_45 : decode cX11_seen 45 = .ok (.ireturn, 1) := by decide +kernel
theorem dX11_seen_46 : decode cX11_seen 46 = .ok (.aload_n 0, 1) := by decide +kernel
theorem dX11_seen_47 : decode cX11_seen 47 = .ok (.getfield 10, 3) := by decide +kernel
theorem dX11_seen_50 : decode cX11_seen 50 = .ok (.getfield 188, 3) := by decide +kernel
theorem dX11_seen_53 : decode cX11_seen 53 = .ok (.invokevirtual 192, 3) := by decide +kernel
theorem dX11_seen_56 : decode cX11_seen 56 = .ok (.ifCond .eq 10, 3) := by decide +kernel
theorem dX11_seen_59 : decode cX11_seen 59 = .ok (.aload_n 0, 1) := by decide +kernel
theorem dX11_seen_60 : decode cX11_seen 60 = .ok (.invokevirtual 74, 3) := by decide +kernel
theorem dX11_seen_63 : decode cX11_seen 63 = .ok (.goto 18, 3) := by decide +kernel
theorem dX11_seen_66 : decode cX11_seen 66 = .ok (.aload_n 0, 1) := by decide +kernel
theorem dX11_seen_67 : decode cX11_seen 67 = .ok (.getfield 10, 3) := by decide +kernel
theorem dX11_seen_70 : decode cX11_seen 70 = .ok (.getfield 188, 3) := by decide +kernel
theorem dX11_seen_73 : decode cX11_seen 73 = .ok (.iload_n 1, 1) := by decide +kernel
theorem dX11_seen_74 : decode cX11_seen 74 = .ok (.iload_n 2, 1) := by decide +kernel
theorem dX11_seen_75 : decode cX11_seen 75 = .ok (.iload_n 3, 1) := by decide +kernel
theorem dX11_seen_76 : decode cX11_seen 76 = .ok (.iload 4, 2) := by decide +kernel
theorem dX11_seen_78 : decode cX11_seen 78 = .ok (.invokevirtual 198, 3) := by decide +kernel
theorem dX11_seen_81 : decode cX11_seen 81 = .ok (.ireturn, 1) := by decide +kernel
set_option maxRecDepth 20000 in
theorem ggX11_grave_X10_hasWrong : GoodIn wsX11_grave wsX10_hasWrong := goodIn_r _ [6, 7, 8, 9, 10, 71, 72, 73, 74, 75, 76, 77, 78, 79, 80, 81, 82, 83, 84, 85] (by decide +kernel) (by decide +kernel)
set_option maxRecDepth 20000 in
theorem gX11_grave_X10_hasWrong : GoodIn wsX11_grave (wsV RX11 131 RX10 yX10_hasWrong wsX10_hasWrong) := goodIn_app (goodIn_of _ (by decide +kernel)) ggX11_grave_X10_hasWrong
set_option maxRecDepth 20000 in
theorem ggX11_grave_X11_within : GoodIn wsX11_grave wsX11_within := goodIn_r _ [10] (by decide +kernel) (by decide +kernel)
set_option maxRecDepth 20000 in
theorem gX11_grave_X11_within : GoodIn wsX11_grave (va_wsS RX11 66 yX11_within wsX11_within) := goodIn_app (goodIn_of _ (by decide +kernel)) ggX11_grave_X11_within
set_option maxRecDepth 20000 in
theorem ggX11_grave_X11_bad : GoodIn wsX11_grave wsX11_bad := goodIn_r _ [15, 16, 60, 61, 62, 63, 64, 65, 66, 67, 68, 69, 70] (by decide +kernel) (by decide +kernel)
set_option maxRecDepth 20000 in
theorem gX11_grave_X11_bad : GoodIn wsX11_grave (wsV RX11 70 RX11 yX11_bad wsX11_bad) := goodIn_app (goodIn_of _ (by decide +kernel)) ggX11_grave_X11_bad
set_option maxRecDepth 20000 in
theorem ggX11_grave_X1_gravities : GoodIn wsX11_grave wsX1_gravities := goodIn_r _ [20, 21, 22, 19, 23, 24, 25, 26, 27, 28, 29, 30, 31, 32, 33, 34, 35, 36, 37, 38, 39, 40, 41, 42, 43, 71, 72, 73, 74, 75, 76, 77, 78, 79, 80, 81, 82, 83, 84, 85, 86, 87, 88] (by decide +kernel) (by decide +kernel)
set_option maxRecDepth 20000 in
theorem gX11_grave_X1_gravities : GoodIn wsX11_grave (va_wsS RX11 200 yX1_gravities wsX1_gravities) := goodIn_app (goodIn_of _ (by decide +kernel)) ggX11_grave_X1_gravities
set_option maxRecDepth 20000 in
theorem ggX11_grave_J6_bitCount_0f7a4 : GoodIn wsX11_grave wsJ6_bitCount_0f7a4 := goodIn_r _ [47, 48, 49, 50] (by decide +kernel) (by decide +kernel)
set_option maxRecDepth 20000 in
theorem gX11_grave_J6_bitCount_0f7a4 : GoodIn wsX11_grave (va_wsS RX11 203 yJ6_bitCount_0f7a4 wsJ6_bitCount_0f7a4) := goodIn_app (goodIn_of _ (by decide +kernel)) ggX11_grave_J6_bitCount_0f7a4
set_option maxRecDepth 20000 in
theorem ggX11_grave_X11_lowest : GoodIn wsX11_grave wsX11_lowest := goodIn_r _ [53, 54, 55, 9, 56] (by decide +kernel) (by decide +kernel)
set_option maxRecDepth 20000 in
theorem gX11_grave_X11_lowest : GoodIn wsX11_grave (va_wsS RX11 208 yX11_lowest wsX11_lowest) := goodIn_app (goodIn_of _ (by decide +kernel)) ggX11_grave_X11_lowest
set_option maxRecDepth 20000 in
theorem ggX11_grave_X11_highest : GoodIn wsX11_grave wsX11_highest := goodIn_r _ [59, 54, 55, 9, 56] (by decide +kernel) (by decide +kernel)
set_option maxRecDepth 20000 in
theorem gX11_grave_X11_highest : GoodIn wsX11_grave (va_wsS RX11 211 yX11_highest wsX11_highest) := goodIn_app (goodIn_of _ (by decide +kernel)) ggX11_grave_X11_highest
theorem dX11_grave_0 : decode cX11_grave 0 = .ok (.aload_n 0, 1) := by decide +kernel
theorem dX11_grave_1 : decode cX11_grave 1 = .ok (.getfield 10, 3) := by decide +kernel
theorem dX11_grave_4 : decode cX11_grave 4 = .ok (.iload_n 1, 1) := by decide +kernel
theorem dX11_grave_5 : decode cX11_grave 5 = .ok (.invokevirtual 131, 3) := by decide +kernel
theorem dX11_grave_8 : decode cX11_grave 8 = .ok (.ifCond .eq 12, 3) := by decide +kernel
theorem dX11_grave_11 : decode cX11_grave 11 = .ok (.iload_n 2, 1) := by decide +kernel
theorem dX11_grave_12 : decode cX11_grave 12 = .ok (.iconst 0, 1) := by decide +kernel
theorem dX11_grave_13 : decode cX11_grave 13 = .ok (.iconst 2, 1) := by decide +kernel
theorem dX11_grave_14 : decode cX11_grave 14 = .ok (.invokestatic 66, 3) := by decide +kernel
theorem dX11_grave_17 : decode cX11_grave 17 = .ok (.ifCond .ne 8, 3) := by decide +kernel
theorem dX11_grave_20 : decode cX11_grave 20 = .ok (.aload_n 0, 1) := by decide +kernel
theorem dX11_grave_21 : decode cX11_grave 21 = .ok (.invokevirtual 70, 3) := by decide +kernel
theorem dX11_grave_24 : decode cX11_grave 24 = .ok (.ireturn, 1) := by decide +kernel
theorem dX11_grave_25 : decode cX11_grave 25 = .ok (.aload_n 0, 1) := by decide +kernel
theorem dX11_grave_26 : decode cX11_grave 26 = .ok (.getfield 10, 3) := by decide +kernel
theorem dX11_grave_29 : decode cX11_grave 29 = .ok (.iload_n 1, 1) := by decide +kernel
theorem dX11_grave_30 : decode cX11_grave 30 = .ok (.invokestatic 200, 3) := by decide +kernel
theorem dX11_grave_33 : decode cX11_grave 33 = .ok (.istore_n 3, 1) := by decide +kernel
theorem dX11_grave_34 : decode cX11_grave 34 = .ok (.iload_n 2, 1) := by decide +kernel
theorem dX11_grave_35 : decode cX11_grave 35 = .ok (.lookupswitch 35 #[(0, 25), (1, 30)], 25) := by decide +kernel
theorem dX11_grave_60 : decode cX11_grave 60 = .ok (.iload_n 3, 1) := by decide +kernel
theorem dX11_grave_61 : decode cX11_grave 61 = .ok (.invokestatic 203, 3) := by decide +kernel
theorem dX11_grave_64 : decode cX11_grave 64 = .ok (.ireturn, 1) := by decide +kernel
theorem dX11_grave_65 : decode cX11_grave 65 = .ok (.iload_n 3, 1) := by decide +kernel
theorem dX11_grave_66 : decode cX11_grave 66 = .ok (.invokestatic 208, 3) := by decide +kernel
theorem dX11_grave_69 : decode cX11_grave 69 = .ok (.ireturn, 1) := by decide +kernel
theorem dX11_grave_70 : decode cX11_grave 70 = .ok (.iload_n 3, 1) := by decide +kernel
theorem dX11_grave_71 : decode cX11_grave 71 = .ok (.invokestatic 211, 3) := by decide +kernel
theorem dX11_grave_74 : decode cX11_grave 74 = .ok (.ireturn, 1) := by decide +kernel
set_option maxRecDepth 20000 in
theorem ggX11_tell_X10_hasWrong : GoodIn wsX11_tell wsX10_hasWrong := goodIn_r _ [6, 7, 8, 9, 10, 63, 64, 65, 66, 67, 68, 69, 70, 71, 72, 73, 74, 75, 76, 77] (by decide +kernel) (by decide +kernel)
set_option maxRecDepth 20000 in
theorem gX11_tell_X10_hasWrong : GoodIn wsX11_tell (wsV RX11 131 RX10 yX10_hasWrong wsX10_hasWrong) := goodIn_app (goodIn_of _ (by decide +kernel)) ggX11_tell_X10_hasWrong
set_option maxRecDepth 20000 in
theorem ggX11_tell_X1_nextSight : GoodIn wsX11_tell wsX1_nextSight := goodIn_r _ [14, 15, 16, 17, 13, 18, 19, 20, 21, 22, 23, 24, 25, 26, 27, 28, 29, 30, 31, 32, 33, 34, 35, 36, 37, 38, 39, 40, 41, 42, 43, 44, 45, 9, 46, 63, 64, 65, 66, 67, 68, 69, 70, 71, 72, 73, 74, 75, 76, 77, 78, 79, 80] (by decide +kernel) (by decide +kernel)
set_option maxRecDepth 20000 in
theorem gX11_tell_X1_nextSight : GoodIn wsX11_tell (va_wsS RX11 214 yX1_nextSight wsX1_nextSight) := goodIn_app (goodIn_of _ (by decide +kernel)) ggX11_tell_X1_nextSight
set_option maxRecDepth 20000 in
theorem ggX11_tell_X11_bad : GoodIn wsX11_tell wsX11_bad := goodIn_r _ [50, 51, 52, 53, 54, 55, 56, 57, 58, 59, 60, 61, 62] (by decide +kernel) (by decide +kernel)
set_option maxRecDepth 20000 in
theorem gX11_tell_X11_bad : GoodIn wsX11_tell (wsV RX11 70 RX11 yX11_bad wsX11_bad) := goodIn_app (goodIn_of _ (by decide +kernel)) ggX11_tell_X11_bad
theorem dX11_tell_0 : decode cX11_tell 0 = .ok (.aload_n 0, 1) := by decide +kernel
theorem dX11_tell_1 : decode cX11_tell 1 = .ok (.getfield 10, 3) := by decide +kernel
theorem dX11_tell_4 : decode cX11_tell 4 = .ok (.iload_n 1, 1) := by decide +kernel
theorem dX11_tell_5 : decode cX11_tell 5 = .ok (.invokevirtual 131, 3) := by decide +kernel
theorem dX11_tell_8 : decode cX11_tell 8 = .ok (.ifCond .eq 14, 3) := by decide +kernel
theorem dX11_tell_11 : decode cX11_tell 11 = .ok (.aload_n 0, 1) := by decide +kernel
theorem dX11_tell_12 : decode cX11_tell 12 = .ok (.getfield 10, 3) := by decide +kernel
theorem dX11_tell_15 : decode cX11_tell 15 = .ok (.iload_n 1, 1) := by decide +kernel
theorem dX11_tell_16 : decode cX11_tell 16 = .ok (.invokestatic 214, 3) := by decide +kernel
theorem dX11_tell_19 : decode cX11_tell 19 = .ok (.goto 7, 3) := by decide +kernel
theorem dX11_tell_22 : decode cX11_tell 22 = .ok (.aload_n 0, 1) := by decide +kernel
theorem dX11_tell_23 : decode cX11_tell 23 = .ok (.invokevirtual 70, 3) := by decide +kernel
theorem dX11_tell_26 : decode cX11_tell 26 = .ok (.ireturn, 1) := by decide +kernel
set_option maxRecDepth 20000 in
theorem ggX11_note_X10_hasWrong : GoodIn wsX11_note wsX10_hasWrong := goodIn_r _ [7, 8, 9, 10, 11, 46, 47, 48, 49, 50, 51, 52, 53, 54, 55, 56, 57, 58, 59, 60] (by decide +kernel) (by decide +kernel)
set_option maxRecDepth 20000 in
theorem gX11_note_X10_hasWrong : GoodIn wsX11_note (wsV RX11 131 RX10 yX10_hasWrong wsX10_hasWrong) := goodIn_app (goodIn_of _ (by decide +kernel)) ggX11_note_X10_hasWrong
set_option maxRecDepth 20000 in
theorem ggX11_note_X11_within : GoodIn wsX11_note wsX11_within := goodIn_r _ [11] (by decide +kernel) (by decide +kernel)
set_option maxRecDepth 20000 in
theorem gX11_note_X11_within : GoodIn wsX11_note (va_wsS RX11 66 yX11_within wsX11_within) := goodIn_app (goodIn_of _ (by decide +kernel)) ggX11_note_X11_within
set_option maxRecDepth 20000 in
theorem ggX11_note_X11_bad : GoodIn wsX11_note wsX11_bad := goodIn_r _ [16, 17, 35, 36, 37, 38, 39, 40, 41, 42, 43, 44, 45] (by decide +kernel) (by decide +kernel)
set_option maxRecDepth 20000 in
theorem gX11_note_X11_bad : GoodIn wsX11_note (wsV RX11 70 RX11 yX11_bad wsX11_bad) := goodIn_app (goodIn_of _ (by decide +kernel)) ggX11_note_X11_bad
set_option maxRecDepth 20000 in
theorem ggX11_note_X7_isFull : GoodIn wsX11_note wsX7_isFull := goodIn_r _ [22, 23, 24, 61, 62, 63] (by decide +kernel) (by decide +kernel)
set_option maxRecDepth 20000 in
theorem gX11_note_X7_isFull : GoodIn wsX11_note (wsV RX11 192 RX7 yX7_isFull wsX7_isFull) := goodIn_app (goodIn_of _ (by decide +kernel)) ggX11_note_X7_isFull
set_option maxRecDepth 20000 in
theorem ggX11_note_X11_full : GoodIn wsX11_note wsX11_full := goodIn_r _ [28, 29, 35, 36, 37, 38, 39, 40, 41, 42, 43, 44, 45] (by decide +kernel) (by decide +kernel)
set_option maxRecDepth 20000 in
theorem gX11_note_X11_full : GoodIn wsX11_note (wsV RX11 74 RX11 yX11_full wsX11_full) := goodIn_app (goodIn_of _ (by decide +kernel)) ggX11_note_X11_full
set_option maxRecDepth 20000 in
theorem ggX11_note_X7_add : GoodIn wsX11_note wsX7_add := goodIn_r _ [33, 23, 34, 61, 62, 63] (by decide +kernel) (by decide +kernel)
set_option maxRecDepth 20000 in
theorem gX11_note_X7_add : GoodIn wsX11_note (wsV RX11 198 RX7 yX7_add wsX7_add) := goodIn_app (goodIn_of _ (by decide +kernel)) ggX11_note_X7_add
theorem dX11_note_0 : decode cX11_note 0 = .ok (.aload_n 0, 1) := by decide +kernel
theorem dX11_note_1 : decode cX11_note 1 = .ok (.getfield 10, 3) := by decide +kernel
theorem dX11_note_4 : decode cX11_note 4 = .ok (.iload_n 1, 1) := by decide +kernel
theorem dX11_note_5 : decode cX11_note 5 = .ok (.invokevirtual 131, 3) := by decide +kernel
theorem dX11_note_8 : decode cX11_note 8 = .ok (.ifCond .eq 34, 3) := by decide +kernel
theorem dX11_note_11 : decode cX11_note 11 = .ok (.iload_n 2, 1) := by decide +kernel
theorem dX11_note_12 : decode cX11_note 12 = .ok (.iconst 1, 1) := by decide +kernel
theorem dX11_note_13 : decode cX11_note 13 = .ok (.bipush 9, 2) := by decide +kernel
theorem dX11_note_15 : decode cX11_note 15 = .ok (.invokestatic 66, 3) := by decide +kernel
theorem dX11_note_18 : decode cX11_note 18 = .ok (.ifCond .eq 24, 3) := by decide +kernel
theorem dX11_note_21 : decode cX11_note 21 = .ok (.iload_n 3, 1) := by decide +kernel
theorem dX11_note_22 : decode cX11_note 22 = .ok (.iconst 0, 1) := by decide +kernel
theorem dX11_note_23 : decode cX11_note 23 = .ok (.bipush 99, 2) := by decide +kernel
theorem dX11_note_25 : decode cX11_note 25 = .ok (.invokestatic 66, 3) := by decide +kernel
theorem dX11_note_28 : decode cX11_note 28 = .ok (.ifCond .eq 14, 3) := by decide +kernel
theorem dX11_note_31 : decode cX11_note 31 = .ok (.iload 4, 2) := by decide +kernel
theorem dX11_note_33 : decode cX11_note 33 = .ok (.iconst 0, 1) := by decide +kernel
theorem dX11_note_34 : decode cX11_note 34 = .ok (.bipush 40, 2) := by decide +kernel
theorem dX11_note_36 : decode cX11_note 36 = .ok (.invokestatic 66, 3) := by decide +kernel
theorem dX11_note_39 : decode cX11_note 39 = .ok (.ifCond .ne 8, 3) := by decide +kernel
theorem dX11_note_42 : decode cX11_note 42 = .ok (.aload_n 0, 1) := by decide +kernel
theorem dX11_note_43 : decode cX11_note 43 = .ok (.invokevirtual 70, 3) := by decide +kernel
theorem dX11_note_46 : decode cX11_note 46 = .ok (.ireturn, 1) := by decide +kernel
theorem dX11_note_47 : decode cX11_note 47 = .ok (.aload_n 0, 1) := by decide +kernel
theorem dX11_note_48 : decode cX11_note 48 = .ok (.getfield 10, 3) := by decide +kernel
theorem dX11_note_51 : decode cX11_note 51 = .ok (.getfield 217, 3) := by decide +kernel
theorem dX11_note_54 : decode cX11_note 54 = .ok (.invokevirtual 192, 3) := by decide +kernel
theorem dX11_note_57 : decode cX11_note 57 = .ok (.ifCond .eq 10, 3) := by decide +kernel
theorem dX11_note_60 : decode cX11_note 60 = .ok (.aload_n 0, 1) := by decide +kernel
theorem dX11_note_61 : decode cX11_note 61 = .ok (.invokevirtual 74, 3) := by decide +kernel
theorem dX11_note_64 : decode cX11_note 64 = .ok (.goto 18, 3) := by decide +kernel
theorem dX11_note_67 : decode cX11_note 67 = .ok (.aload_n 0, 1) := by decide +kernel
theorem dX11_note_68 : decode cX11_note 68 = .ok (.getfield 10, 3) := by decide +kernel
theorem dX11_note_71 : decode cX11_note 71 = .ok (.getfield 217, 3) := by decide +kernel
theorem dX11_note_74 : decode cX11_note 74 = .ok (.iload_n 1, 1) := by decide +kernel
theorem dX11_note_75 : decode cX11_note 75 = .ok (.iload_n 2, 1) := by decide +kernel
theorem dX11_note_76 : decode cX11_note 76 = .ok (.iload_n 3, 1) := by decide +kernel
theorem dX11_note_77 : decode cX11_note 77 = .ok (.iload 4, 2) := by decide +kernel
theorem dX11_note_79 : decode cX11_note 79 = .ok (.invokevirtual 198, 3) := by decide +kernel
theorem dX11_note_82 : decode cX11_note 82 = .ok (.ireturn, 1) := by decide +kernel
set_option maxRecDepth 20000 in
theorem ggX11_mark_X10_hasPerson : GoodIn wsX11_mark wsX10_hasPerson := goodIn_r _ [7, 8, 9, 10, 11, 46, 47, 48, 49, 50, 51, 52, 53, 54, 55, 56, 57, 58, 59, 60] (by decide +kernel) (by decide +kernel)
set_option maxRecDepth 20000 in
theorem gX11_mark_X10_hasPerson : GoodIn wsX11_mark (wsV RX11 90 RX10 yX10_hasPerson wsX10_hasPerson) := goodIn_app (goodIn_of _ (by decide +kernel)) ggX11_mark_X10_hasPerson
set_option maxRecDepth 20000 in
theorem ggX11_mark_X11_within : GoodIn wsX11_mark wsX11_within := goodIn_r _ [11] (by decide +kernel) (by decide +kernel)
set_option maxRecDepth 20000 in
theorem gX11_mark_X11_within : GoodIn wsX11_mark (va_wsS RX11 66 yX11_within wsX11_within) := goodIn_app (goodIn_of _ (by decide +kernel)) ggX11_mark_X11_within
set_option maxRecDepth 20000 in
theorem ggX11_mark_X11_bad : GoodIn wsX11_mark wsX11_bad := goodIn_r _ [16, 17, 35, 36, 37, 38, 39, 40, 41, 42, 43, 44, 45] (by decide +kernel) (by decide +kernel)
set_option maxRecDepth 20000 in
theorem gX11_mark_X11_bad : GoodIn wsX11_mark (wsV RX11 70 RX11 yX11_bad wsX11_bad) := goodIn_app (goodIn_of _ (by decide +kernel)) ggX11_mark_X11_bad
set_option maxRecDepth 20000 in
theorem ggX11_mark_X7_isFull : GoodIn wsX11_mark wsX7_isFull := goodIn_r _ [22, 23, 24, 61, 62, 63] (by decide +kernel) (by decide +kernel)
set_option maxRecDepth 20000 in
theorem gX11_mark_X7_isFull : GoodIn wsX11_mark (wsV RX11 192 RX7 yX7_isFull wsX7_isFull) := goodIn_app (goodIn_of _ (by decide +kernel)) ggX11_mark_X7_isFull
set_option maxRecDepth 20000 in
theorem ggX11_mark_X11_full : GoodIn wsX11_mark wsX11_full := goodIn_r _ [28, 29, 35, 36, 37, 38, 39, 40, 41, 42, 43, 44, 45] (by decide +kernel) (by decide +kernel)
set_option maxRecDepth 20000 in
theorem gX11_mark_X11_full : GoodIn wsX11_mark (wsV RX11 74 RX11 yX11_full wsX11_full) := goodIn_app (goodIn_of _ (by decide +kernel)) ggX11_mark_X11_full
set_option maxRecDepth 20000 in
theorem ggX11_mark_X7_add : GoodIn wsX11_mark wsX7_add := goodIn_r _ [33, 23, 34, 61, 62, 63] (by decide +kernel) (by decide +kernel)
set_option maxRecDepth 20000 in
theorem gX11_mark_X7_add : GoodIn wsX11_mark (wsV RX11 198 RX7 yX7_add wsX7_add) := goodIn_app (goodIn_of _ (by decide +kernel)) ggX11_mark_X7_add
theorem dX11_mark_0 : decode cX11_mark 0 = .ok (.aload_n 0, 1) := by decide +kernel
theorem dX11_mark_1 : decode cX11_mark 1 = .ok (.getfield 10, 3) := by decide +kernel
theorem dX11_mark_4 : decode cX11_mark 4 = .ok (.iload_n 1, 1) := by decide +kernel
theorem dX11_mark_5 : decode cX11_mark 5 = .ok (.invokevirtual 90, 3) := by decide +kernel
theorem dX11_mark_8 : decode cX11_mark 8 = .ok (.ifCond .eq 34, 3) := by decide +kernel
theorem dX11_mark_11 : decode cX11_mark 11 = .ok (.iload_n 2, 1) := by decide +kernel
theorem dX11_mark_12 : decode cX11_mark 12 = .ok (.iconst 0, 1) := by decide +kernel
theorem dX11_mark_13 : decode cX11_mark 13 = .ok (.bipush 9, 2) := by decide +kernel
theorem dX11_mark_15 : decode cX11_mark 15 = .ok (.invokestatic 66, 3) := by decide +kernel
theorem dX11_mark_18 : decode cX11_mark 18 = .ok (.ifCond .eq 24, 3) := by decide +kernel
theorem dX11_mark_21 : decode cX11_mark 21 = .ok (.iload_n 3, 1) := by decide +kernel
theorem dX11_mark_22 : decode cX11_mark 22 = .ok (.iconst 0, 1) := by decide +kernel
theorem dX11_mark_23 : decode cX11_mark 23 = .ok (.bipush 99, 2) := by decide +kernel
theorem dX11_mark_25 : decode cX11_mark 25 = .ok (.invokestatic 66, 3) := by decide +kernel
theorem dX11_mark_28 : decode cX11_mark 28 = .ok (.ifCond .eq 14, 3) := by decide +kernel
theorem dX11_mark_31 : decode cX11_mark 31 = .ok (.iload 4, 2) := by decide +kernel
theorem dX11_mark_33 : decode cX11_mark 33 = .ok (.iconst 0, 1) := by decide +kernel
theorem dX11_mark_34 : decode cX11_mark 34 = .ok (.bipush 60, 2) := by decide +kernel
theorem dX11_mark_36 : decode cX11_mark 36 = .ok (.invokestatic 66, 3) := by decide +kernel
theorem dX11_mark_39 : decode cX11_mark 39 = .ok (.ifCond .ne 8, 3) := by decide +kernel
theorem dX11_mark_42 : decode cX11_mark 42 = .ok (.aload_n 0, 1) := by decide +kernel
theorem dX11_mark_43 : decode cX11_mark 43 = .ok (.invokevirtual 70, 3) := by decide +kernel
theorem dX11_mark_46 : decode cX11_mark 46 = .ok (.ireturn, 1) := by decide +kernel
theorem dX11_mark_47 : decode cX11_mark 47 = .ok (.aload_n 0, 1) := by decide +kernel
theorem dX11_mark_48 : decode cX11_mark 48 = .ok (.getfield 10, 3) := by decide +kernel
theorem dX11_mark_51 : decode cX11_mark 51 = .ok (.getfield 220, 3) := by decide +kernel
theorem dX11_mark_54 : decode cX11_mark 54 = .ok (.invokevirtual 192, 3) := by decide +kernel
theorem dX11_mark_57 : decode cX11_mark 57 = .ok (.ifCond .eq 10, 3) := by decide +kernel
theorem dX11_mark_60 : decode cX11_mark 60 = .ok (.aload_n 0, 1) := by decide +kernel
theorem dX11_mark_61 : decode cX11_mark 61 = .ok (.invokevirtual 74, 3) := by decide +kernel
theorem dX11_mark_64 : decode cX11_mark 64 = .ok (.goto 18, 3) := by decide +kernel
theorem dX11_mark_67 : decode cX11_mark 67 = .ok (.aload_n 0, 1) := by decide +kernel
theorem dX11_mark_68 : decode cX11_mark 68 = .ok (.getfield 10, 3) := by decide +kernel
theorem dX11_mark_71 : decode cX11_mark 71 = .ok (.getfield 220, 3) := by decide +kernel
theorem dX11_mark_74 : decode cX11_mark 74 = .ok (.iload_n 1, 1) := by decide +kernel
theorem dX11_mark_75 : decode cX11_mark 75 = .ok (.iload_n 2, 1) := by decide +kernel
theorem dX11_mark_76 : decode cX11_mark 76 = .ok (.iload_n 3, 1) := by decide +kernel
theorem dX11_mark_77 : decode cX11_mark 77 = .ok (.iload 4, 2) := by decide +kernel
theorem dX11_mark_79 : decode cX11_mark 79 = .ok (.invokevirtual 198, 3) := by decide +kernel
theorem dX11_mark_82 : decode cX11_mark 82 = .ok (.ireturn, 1) := by decide +kernel
set_option maxRecDepth 20000 in
theorem ggX11_forget_X7_drop : GoodIn wsX11_forget wsX7_drop := goodIn_r _ [9, 10, 43, 44, 45] (by decide +kernel) (by decide +kernel)
set_option maxRecDepth 20000 in
theorem gX11_forget_X7_drop : GoodIn wsX11_forget (wsV RX11 223 RX7 yX7_drop wsX7_drop) := goodIn_app (goodIn_of _ (by decide +kernel)) ggX11_forget_X7_drop
set_option maxRecDepth 20000 in
theorem ggX11_forget_X11_bad : GoodIn wsX11_forget wsX11_bad := goodIn_r _ [15, 16, 17, 18, 19, 20, 21, 22, 23, 24, 25, 26, 27] (by decide +kernel) (by decide +kernel)
set_option maxRecDepth 20000 in
theorem gX11_forget_X11_bad : GoodIn wsX11_forget (wsV RX11 70 RX11 yX11_bad wsX11_bad) := goodIn_app (goodIn_of _ (by decide +kernel)) ggX11_forget_X11_bad
theorem dX11_forget_0 : decode cX11_forget 0 = .ok (.iload_n 1, 1) := by decide +kernel
theorem dX11_forget_1 : decode cX11_forget 1 = .ok (.tableswitch 60 0 2 #[27, 38, 49], 27) := by decide +kernel
theorem dX11_forget_28 : decode cX11_forget 28 = .ok (.aload_n 0, 1) := by decide +kernel
theorem dX11_forget_29 : decode cX11_forget 29 = .ok (.getfield 10, 3) := by decide +kernel
theorem dX11_forget_32 : decode cX11_forget 32 = .ok (.getfield 188, 3) := by decide +kernel
theorem dX11_forget_35 : decode cX11_forget 35 = .ok (.invokevirtual 223, 3) := by decide +kernel
theorem dX11_forget_38 : decode cX11_forget 38 = .ok (.ireturn, 1) := by decide +kernel
theorem dX11_forget_39 : decode cX11_forget 39 = .ok (.aload_n 0, 1) := by decide +kernel
theorem dX11_forget_40 : decode cX11_forget 40 = .ok (.getfield 10, 3) := by decide +kernel
theorem dX11_forget_43 : decode cX11_forget 43 = .ok (.getfield 217, 3) := by decide +kernel
theorem dX11_forget_46 : decode cX11_forget 46 = .ok (.invokevirtual 223, 3) := by decide +kernel
theorem dX11_forget_49 : decode cX11_forget 49 = .ok (.ireturn, 1) := by decide +kernel
theorem dX11_forget_50 : decode cX11_forget 50 = .ok (.aload_n 0, 1) := by decide +kernel
theorem dX11_forget_51 : decode cX11_forget 51 = .ok (.getfield 10, 3) := by decide +kernel
theorem dX11_forget_54 : decode cX11_forget 54 = .ok (.getfield 220, 3) := by decide +kernel
theorem dX11_forget_57 : decode cX11_forget 57 = .ok (.invokevirtual 223, 3) := by decide +kernel
theorem dX11_forget_60 : decode cX11_forget 60 = .ok (.ireturn, 1) := by decide +kernel
theorem dX11_forget_61 : decode cX11_forget 61 = .ok (.aload_n 0, 1) := by decide +kernel
theorem dX11_forget_62 : decode cX11_forget 62 = .ok (.invokevirtual 70, 3) := by decide +kernel
theorem dX11_forget_65 : decode cX11_forget 65 = .ok (.ireturn, 1) := by decide +kernel
set_option maxRecDepth 20000 in
theorem ggX11_is_X10_hasWrong : GoodIn wsX11_is wsX10_hasWrong := goodIn_r _ [6, 7, 8, 9, 10, 50, 51, 52, 53, 54, 55, 56, 57, 58, 59, 60, 61, 62, 63, 64] (by decide +kernel) (by decide +kernel)
set_option maxRecDepth 20000 in
theorem gX11_is_X10_hasWrong : GoodIn wsX11_is (wsV RX11 131 RX10 yX10_hasWrong wsX10_hasWrong) := goodIn_app (goodIn_of _ (by decide +kernel)) ggX11_is_X10_hasWrong
set_option maxRecDepth 20000 in
theorem ggX11_is_X1_wrongKinds : GoodIn wsX11_is wsX1_wrongKinds := goodIn_r _ [14, 15, 16, 17, 18, 19, 20, 21, 22, 23, 24, 25, 26, 27, 28, 29, 30, 31, 32, 33, 50, 51, 52, 53, 54, 55, 56, 57, 58, 59, 60, 61, 62, 63, 64, 65, 66, 67] (by decide +kernel) (by decide +kernel)
set_option maxRecDepth 20000 in
theorem gX11_is_X1_wrongKinds : GoodIn wsX11_is (va_wsS RX11 226 yX1_wrongKinds wsX1_wrongKinds) := goodIn_app (goodIn_of _ (by decide +kernel)) ggX11_is_X1_wrongKinds
set_option maxRecDepth 20000 in
theorem ggX11_is_X11_bad : GoodIn wsX11_is wsX11_bad := goodIn_r _ [37, 38, 39, 40, 41, 42, 43, 44, 45, 46, 47, 48, 49] (by decide +kernel) (by decide +kernel)
set_option maxRecDepth 20000 in
theorem gX11_is_X11_bad : GoodIn wsX11_is (wsV RX11 70 RX11 yX11_bad wsX11_bad) := goodIn_app (goodIn_of _ (by decide +kernel)) ggX11_is_X11_bad
theorem dX11_is_0 : decode cX11_is 0 = .ok (.aload_n 0, 1) := by decide +kernel
theorem dX11_is_1 : decode cX11_is 1 = .ok (.getfield 10, 3) := by decide +kernel
theorem dX11_is_4 : decode cX11_is 4 = .ok (.iload_n 1, 1) := by decide +kernel
theorem dX11_is_5 : decode cX11_is 5 = .ok (.invokevirtual 131, 3) := by decide +kernel
theorem dX11_is_8 : decode cX11_is 8 = .ok (.ifCond .eq 14, 3) := by decide +kernel
theorem dX11_is_11 : decode cX11_is 11 = .ok (.aload_n 0, 1) := by decide +kernel
theorem dX11_is_12 : decode cX11_is 12 = .ok (.getfield 10, 3) := by decide +kernel
theorem dX11_is_15 : decode cX11_is 15 = .ok (.iload_n 1, 1) := by decide +kernel
theorem dX11_is_16 : decode cX11_is 16 = .ok (.invokestatic 226, 3) := by decide +kernel
theorem dX11_is_19 : decode cX11_is 19 = .ok (.goto 7, 3) := by decide +kernel
theorem dX11_is_22 : decode cX11_is 22 = .ok (.aload_n 0, 1) := by decide +kernel
theorem dX11_is_23 : decode cX11_is 23 = .ok (.invokevirtual 70, 3) := by decide +kernel
theorem dX11_is_26 : decode cX11_is 26 = .ok (.ireturn, 1) := by decide +kernel
set_option maxRecDepth 20000 in
theorem ggX11_look_X10_hasWrong : GoodIn wsX11_look wsX10_hasWrong := goodIn_r _ [7, 8, 9, 10, 11, 64, 65, 66, 67, 68, 69, 70, 71, 72, 73, 74, 75, 76, 77, 78] (by decide +kernel) (by decide +kernel)
set_option maxRecDepth 20000 in
theorem gX11_look_X10_hasWrong : GoodIn wsX11_look (wsV RX11 131 RX10 yX10_hasWrong wsX10_hasWrong) := goodIn_app (goodIn_of _ (by decide +kernel)) ggX11_look_X10_hasWrong
set_option maxRecDepth 20000 in
theorem ggX11_look_X1_nextLook : GoodIn wsX11_look wsX1_nextLook := goodIn_r _ [16, 17, 18, 19, 20, 15, 21, 22, 23, 24, 25, 26, 27, 28, 29, 30, 31, 32, 33, 34, 35, 36, 37, 38, 39, 40, 41, 42, 43, 44, 45, 46, 10, 47, 79, 64, 65, 66, 67, 68, 69, 70, 71, 72, 73, 74, 75, 76, 77, 78, 80, 81, 82] (by decide +kernel) (by decide +kernel)
set_option maxRecDepth 20000 in
theorem gX11_look_X1_nextLook : GoodIn wsX11_look (wsV RX11 229 RX1 yX1_nextLook wsX1_nextLook) := goodIn_app (goodIn_of _ (by decide +kernel)) ggX11_look_X1_nextLook
set_option maxRecDepth 20000 in
theorem ggX11_look_X11_bad : GoodIn wsX11_look wsX11_bad := goodIn_r _ [51, 52, 53, 54, 55, 56, 57, 58, 59, 60, 61, 62, 63] (by decide +kernel) (by decide +kernel)
set_option maxRecDepth 20000 in
theorem gX11_look_X11_bad : GoodIn wsX11_look (wsV RX11 70 RX11 yX11_bad wsX11_bad) := goodIn_app (goodIn_of _ (by decide +kernel)) ggX11_look_X11_bad
theorem dX11_look_0 : decode cX11_look 0 = .ok (.aload_n 0, 1) := by decide +kernel
theorem dX11_look_1 : decode cX11_look 1 = .ok (.getfield 10, 3) := by decide +kernel
theorem dX11_look_4 : decode cX11_look 4 = .ok (.iload_n 1, 1) := by decide +kernel
theorem dX11_look_5 : decode cX11_look 5 = .ok (.invokevirtual 131, 3) := by decide +kernel
theorem dX11_look_8 : decode cX11_look 8 = .ok (.ifCond .eq 18, 3) := by decide +kernel
theorem dX11_look_11 : decode cX11_look 11 = .ok (.aload_n 0, 1) := by decide +kernel
theorem dX11_look_12 : decode cX11_look 12 = .ok (.getfield 48, 3) := by decide +kernel
theorem dX11_look_15 : decode cX11_look 15 = .ok (.aload_n 0, 1) := by decide +kernel
theorem dX11_look_16 : decode cX11_look 16 = .ok (.getfield 10, 3) := by decide +kernel
theorem dX11_look_19 : decode cX11_look 19 = .ok (.iload_n 1, 1) := by decide +kernel
theorem dX11_look_20 : decode cX11_look 20 = .ok (.invokevirtual 229, 3) := by decide +kernel
theorem dX11_look_23 : decode cX11_look 23 = .ok (.goto 7, 3) := by decide +kernel
theorem dX11_look_26 : decode cX11_look 26 = .ok (.aload_n 0, 1) := by decide +kernel
theorem dX11_look_27 : decode cX11_look 27 = .ok (.invokevirtual 70, 3) := by decide +kernel
theorem dX11_look_30 : decode cX11_look 30 = .ok (.ireturn, 1) := by decide +kernel
set_option maxRecDepth 20000 in
theorem ggX11_kinds_X10_hasPerson : GoodIn wsX11_kinds wsX10_hasPerson := goodIn_r _ [6, 7, 8, 9, 10, 47, 48, 49, 50, 51, 52, 53, 54, 55, 56, 57, 58, 59, 60, 61] (by decide +kernel) (by decide +kernel)
set_option maxRecDepth 20000 in
theorem gX11_kinds_X10_hasPerson : GoodIn wsX11_kinds (wsV RX11 90 RX10 yX10_hasPerson wsX10_hasPerson) := goodIn_app (goodIn_of _ (by decide +kernel)) ggX11_kinds_X10_hasPerson
set_option maxRecDepth 20000 in
theorem ggX11_kinds_X1_peopleKinds : GoodIn wsX11_kinds wsX1_peopleKinds := goodIn_r _ [14, 15, 16, 17, 18, 19, 20, 21, 22, 23, 24, 25, 26, 27, 28, 29, 30, 47, 48, 49, 50, 51, 52, 53, 54, 55, 56, 57, 58, 59, 60, 61, 62, 63, 64] (by decide +kernel) (by decide +kernel)
set_option maxRecDepth 20000 in
theorem gX11_kinds_X1_peopleKinds : GoodIn wsX11_kinds (va_wsS RX11 232 yX1_peopleKinds wsX1_peopleKinds) := goodIn_app (goodIn_of _ (by decide +kernel)) ggX11_kinds_X1_peopleKinds
set_option maxRecDepth 20000 in
theorem ggX11_kinds_X11_bad : GoodIn wsX11_kinds wsX11_bad := goodIn_r _ [34, 35, 36, 37, 38, 39, 40, 41, 42, 43, 44, 45, 46] (by decide +kernel) (by decide +kernel)
set_option maxRecDepth 20000 in
theorem gX11_kinds_X11_bad : GoodIn wsX11_kinds (wsV RX11 70 RX11 yX11_bad wsX11_bad) := goodIn_app (goodIn_of _ (by decide +kernel)) ggX11_kinds_X11_bad
theorem dX11_kinds_0 : decode cX11_kinds 0 = .ok (.aload_n 0, 1) := by decide +kernel
theorem dX11_kinds_1 : decode cX11_kinds 1 = .ok (.getfield 10, 3) := by decide +kernel
theorem dX11_kinds_4 : decode cX11_kinds 4 = .ok (.iload_n 1, 1) := by decide +kernel
theorem dX11_kinds_5 : decode cX11_kinds 5 = .ok (.invokevirtual 90, 3) := by decide +kernel
theorem dX11_kinds_8 : decode cX11_kinds 8 = .ok (.ifCond .eq 14, 3) := by decide +kernel
theorem dX11_kinds_11 : decode cX11_kinds 11 = .ok (.aload_n 0, 1) := by decide +kernel
theorem dX11_kinds_12 : decode cX11_kinds 12 = .ok (.getfield 10, 3) := by decide +kernel
theorem dX11_kinds_15 : decode cX11_kinds 15 = .ok (.iload_n 1, 1) := by decide +kernel
theorem dX11_kinds_16 : decode cX11_kinds 16 = .ok (.invokestatic 232, 3) := by decide +kernel
theorem dX11_kinds_19 : decode cX11_kinds 19 = .ok (.goto 7, 3) := by decide +kernel
theorem dX11_kinds_22 : decode cX11_kinds 22 = .ok (.aload_n 0, 1) := by decide +kernel
theorem dX11_kinds_23 : decode cX11_kinds 23 = .ok (.invokevirtual 70, 3) := by decide +kernel
theorem dX11_kinds_26 : decode cX11_kinds 26 = .ok (.ireturn, 1) := by decide +kernel
set_option maxRecDepth 20000 in
theorem ggX11_ask_X10_hasPerson : GoodIn wsX11_ask wsX10_hasPerson := goodIn_r _ [7, 8, 9, 10, 11, 62, 63, 64, 65, 66, 67, 68, 69, 70, 71, 72, 73, 74, 75, 76] (by decide +kernel) (by decide +kernel)
set_option maxRecDepth 20000 in
theorem gX11_ask_X10_hasPerson : GoodIn wsX11_ask (wsV RX11 90 RX10 yX10_hasPerson wsX10_hasPerson) := goodIn_app (goodIn_of _ (by decide +kernel)) ggX11_ask_X10_hasPerson
set_option maxRecDepth 20000 in
theorem ggX11_ask_X1_nextAsk : GoodIn wsX11_ask wsX1_nextAsk := goodIn_r _ [16, 17, 18, 19, 15, 20, 21, 22, 23, 24, 25, 26, 27, 28, 29, 30, 31, 32, 33, 34, 35, 36, 37, 38, 39, 40, 41, 42, 43, 44, 10, 45, 77, 62, 63, 64, 65, 66, 67, 68, 69, 70, 71, 72, 73, 74, 75, 76, 78, 79, 80] (by decide +kernel) (by decide +kernel)
set_option maxRecDepth 20000 in
theorem gX11_ask_X1_nextAsk : GoodIn wsX11_ask (wsV RX11 235 RX1 yX1_nextAsk wsX1_nextAsk) := goodIn_app (goodIn_of _ (by decide +kernel)) ggX11_ask_X1_nextAsk
set_option maxRecDepth 20000 in
theorem ggX11_ask_X11_bad : GoodIn wsX11_ask wsX11_bad := goodIn_r _ [49, 50, 51, 52, 53, 54, 55, 56, 57, 58, 59, 60, 61] (by decide +kernel) (by decide +kernel)
set_option maxRecDepth 20000 in
theorem gX11_ask_X11_bad : GoodIn wsX11_ask (wsV RX11 70 RX11 yX11_bad wsX11_bad) := goodIn_app (goodIn_of _ (by decide +kernel)) ggX11_ask_X11_bad
theorem dX11_ask_0 : decode cX11_ask 0 = .ok (.aload_n 0, 1) := by decide +kernel
theorem dX11_ask_1 : decode cX11_ask 1 = .ok (.getfield 10, 3) := by decide +kernel
theorem dX11_ask_4 : decode cX11_ask 4 = .ok (.iload_n 1, 1) := by decide +kernel
theorem dX11_ask_5 : decode cX11_ask 5 = .ok (.invokevirtual 90, 3) := by decide +kernel
theorem dX11_ask_8 : decode cX11_ask 8 = .ok (.ifCond .eq 18, 3) := by decide +kernel
theorem dX11_ask_11 : decode cX11_ask 11 = .ok (.aload_n 0, 1) := by decide +kernel
theorem dX11_ask_12 : decode cX11_ask 12 = .ok (.getfield 48, 3) := by decide +kernel
theorem dX11_ask_15 : decode cX11_ask 15 = .ok (.aload_n 0, 1) := by decide +kernel
theorem dX11_ask_16 : decode cX11_ask 16 = .ok (.getfield 10, 3) := by decide +kernel
theorem dX11_ask_19 : decode cX11_ask 19 = .ok (.iload_n 1, 1) := by decide +kernel
theorem dX11_ask_20 : decode cX11_ask 20 = .ok (.invokevirtual 235, 3) := by decide +kernel
theorem dX11_ask_23 : decode cX11_ask 23 = .ok (.goto 7, 3) := by decide +kernel
theorem dX11_ask_26 : decode cX11_ask 26 = .ok (.aload_n 0, 1) := by decide +kernel
theorem dX11_ask_27 : decode cX11_ask 27 = .ok (.invokevirtual 70, 3) := by decide +kernel
theorem dX11_ask_30 : decode cX11_ask 30 = .ok (.ireturn, 1) := by decide +kernel
set_option maxRecDepth 20000 in
theorem ggX11_first_X10_hasPerson : GoodIn wsX11_first wsX10_hasPerson := goodIn_r _ [6, 7, 8, 9, 10, 53, 54, 55, 56, 57, 58, 59, 60, 61, 62, 63, 64, 65, 66, 67] (by decide +kernel) (by decide +kernel)
set_option maxRecDepth 20000 in
theorem gX11_first_X10_hasPerson : GoodIn wsX11_first (wsV RX11 90 RX10 yX10_hasPerson wsX10_hasPerson) := goodIn_app (goodIn_of _ (by decide +kernel)) ggX11_first_X10_hasPerson
set_option maxRecDepth 20000 in
theorem ggX11_first_X11_bad : GoodIn wsX11_first wsX11_bad := goodIn_r _ [14, 15, 42, 43, 44, 45, 46, 47, 48, 49, 50, 51, 52] (by decide +kernel) (by decide +kernel)
set_option maxRecDepth 20000 in
theorem gX11_first_X11_bad : GoodIn wsX11_first (wsV RX11 70 RX11 yX11_bad wsX11_bad) := goodIn_app (goodIn_of _ (by decide +kernel)) ggX11_first_X11_bad
set_option maxRecDepth 20000 in
theorem ggX11_first_X10_mercy : GoodIn wsX11_first wsX10_mercy := goodIn_r _ [19, 20, 21, 22, 23, 24, 25, 9, 26, 27, 28, 29, 30, 31, 32, 33, 34, 53, 54, 55, 56, 57, 58, 59, 60, 61, 62, 63, 64, 65, 66, 67] (by decide +kernel) (by decide +kernel)
set_option maxRecDepth 20000 in
theorem gX11_first_X10_mercy : GoodIn wsX11_first (wsV RX11 154 RX10 yX10_mercy wsX10_mercy) := goodIn_app (goodIn_of _ (by decide +kernel)) ggX11_first_X10_mercy
set_option maxRecDepth 20000 in
theorem ggX11_first_X3_resting : GoodIn wsX11_first wsX3_resting := goodIn_r _ [38, 25, 9, 26, 39, 40, 37, 41] (by decide +kernel) (by decide +kernel)
set_option maxRecDepth 20000 in
theorem gX11_first_X3_resting : GoodIn wsX11_first (va_wsS RX11 238 yX3_resting wsX3_resting) := goodIn_app (goodIn_of _ (by decide +kernel)) ggX11_first_X3_resting
theorem dX11_first_0 : decode cX11_first 0 = .ok (.aload_n 0, 1) := by decide +kernel
theorem dX11_first_1 : decode cX11_first 1 = .ok (.getfield 10, 3) := by decide +kernel
theorem dX11_first_4 : decode cX11_first 4 = .ok (.iload_n 1, 1) := by decide +kernel
theorem dX11_first_5 : decode cX11_first 5 = .ok (.invokevirtual 90, 3) := by decide +kernel
theorem dX11_first_8 : decode cX11_first 8 = .ok (.ifCond .eq 19, 3) := by decide +kernel
theorem dX11_first_11 : decode cX11_first 11 = .ok (.aload_n 0, 1) := by decide +kernel
theorem dX11_first_12 : decode cX11_first 12 = .ok (.getfield 10, 3) := by decide +kernel
theorem dX11_first_15 : decode cX11_first 15 = .ok (.iload_n 2, 1) := by decide +kernel
theorem dX11_first_16 : decode cX11_first 16 = .ok (.invokevirtual 90, 3) := by decide +kernel
theorem dX11_first_19 : decode cX11_first 19 = .ok (.ifCond .eq 8, 3) := by decide +kernel
theorem dX11_first_22 : decode cX11_first 22 = .ok (.iload_n 1, 1) := by decide +kernel
theorem dX11_first_23 : decode cX11_first 23 = .ok (.iload_n 2, 1) := by decide +kernel
theorem dX11_first_24 : decode cX11_first 24 = .ok (.if_icmp .ne 8, 3) := by decide +kernel
theorem dX11_first_27 : decode cX11_first 27 = .ok (.aload_n 0, 1) := by decide +kernel
theorem dX11_first_28 : decode cX11_first 28 = .ok (.invokevirtual 70, 3) := by decide +kernel
theorem dX11_first_31 : decode cX11_first 31 = .ok (.ireturn, 1) := by decide +kernel
theorem dX11_first_32 : decode cX11_first 32 = .ok (.aload_n 0, 1) := by decide +kernel
theorem dX11_first_33 : decode cX11_first 33 = .ok (.getfield 10, 3) := by decide +kernel
theorem dX11_first_36 : decode cX11_first 36 = .ok (.iload_n 1, 1) := by decide +kernel
theorem dX11_first_37 : decode cX11_first 37 = .ok (.iconst 0, 1) := by decide +kernel
theorem dX11_first_38 : decode cX11_first 38 = .ok (.iconst 0, 1) := by decide +kernel
theorem dX11_first_39 : decode cX11_first 39 = .ok (.invokevirtual 154, 3) := by decide +kernel
theorem dX11_first_42 : decode cX11_first 42 = .ok (.iconst 3, 1) := by decide +kernel
theorem dX11_first_43 : decode cX11_first 43 = .ok (.if_icmp .ge 7, 3) := by decide +kernel
theorem dX11_first_46 : decode cX11_first 46 = .ok (.iconst 1, 1) := by decide +kernel
theorem dX11_first_47 : decode cX11_first 47 = .ok (.goto 4, 3) := by decide +kernel
theorem dX11_first_50 : decode cX11_first 50 = .ok (.iconst 0, 1) := by decide +kernel
theorem dX11_first_51 : decode cX11_first 51 = .ok (.aload_n 0, 1) := by decide +kernel
theorem dX11_first_52 : decode cX11_first 52 = .ok (.getfield 10, 3) := by decide +kernel
theorem dX11_first_55 : decode cX11_first 55 = .ok (.iload_n 2, 1) := by decide +kernel
theorem dX11_first_56 : decode cX11_first 56 = .ok (.iconst 0, 1) := by decide +kernel
theorem dX11_first_57 : decode cX11_first 57 = .ok (.iconst 0, 1) := by decide +kernel
theorem dX11_first_58 : decode cX11_first 58 = .ok (.invokevirtual 154, 3) := by decide +kernel
theorem dX11_first_61 : decode cX11_first 61 = .ok (.iconst 3, 1) := by decide +kernel
theorem dX11_first_62 : decode cX11_first 62 = .ok (.if_icmp .ge 7, 3) := by decide +kernel
theorem dX11_first_65 : decode cX11_first 65 = .ok (.iconst 1, 1) := by decide +kernel
theorem dX11_first_66 : decode cX11_first 66 = .ok (.goto 4, 3) := by decide +kernel
theorem dX11_first_69 : decode cX11_first 69 = .ok (.iconst 0, 1) := by decide +kernel
theorem dX11_first_70 : decode cX11_first 70 = .ok (.invokestatic 238, 3) := by decide +kernel
theorem dX11_first_73 : decode cX11_first 73 = .ok (.ireturn, 1) := by decide +kernel
set_option maxRecDepth 20000 in
theorem ggX11_rust_X10_hasWrong : GoodIn wsX11_rust wsX10_hasWrong := goodIn_r _ [7, 8, 9, 10, 11, 105, 106, 107, 108, 109, 110, 111, 112, 113, 114, 115, 116, 117, 118, 119] (by decide +kernel) (by decide +kernel)
set_option maxRecDepth 20000 in
theorem gX11_rust_X10_hasWrong : GoodIn wsX11_rust (wsV RX11 131 RX10 yX10_hasWrong wsX10_hasWrong) := goodIn_app (goodIn_of _ (by decide +kernel)) ggX11_rust_X10_hasWrong
set_option maxRecDepth 20000 in
theorem ggX11_rust_X10_allWrongs : GoodIn wsX11_rust wsX10_allWrongs := goodIn_r _ [15, 8, 105, 106, 107, 108, 109, 110, 111, 112, 113, 114, 115, 116, 117, 118, 119] (by decide +kernel) (by decide +kernel)
set_option maxRecDepth 20000 in
theorem gX11_rust_X10_allWrongs : GoodIn wsX11_rust (wsV RX11 244 RX10 yX10_allWrongs wsX10_allWrongs) := goodIn_app (goodIn_of _ (by decide +kernel)) ggX11_rust_X10_allWrongs
set_option maxRecDepth 20000 in
theorem ggX11_rust_X11_within : GoodIn wsX11_rust wsX11_within := goodIn_r _ [11] (by decide +kernel) (by decide +kernel)
set_option maxRecDepth 20000 in
theorem gX11_rust_X11_within : GoodIn wsX11_rust (va_wsS RX11 66 yX11_within wsX11_within) := goodIn_app (goodIn_of _ (by decide +kernel)) ggX11_rust_X11_within
set_option maxRecDepth 20000 in
theorem ggX11_rust_X11_holds : GoodIn wsX11_rust wsX11_holds := goodIn_r _ [19] (by decide +kernel) (by decide +kernel)
set_option maxRecDepth 20000 in
theorem gX11_rust_X11_holds : GoodIn wsX11_rust (va_wsS RX11 247 yX11_holds wsX11_holds) := goodIn_app (goodIn_of _ (by decide +kernel)) ggX11_rust_X11_holds
set_option maxRecDepth 20000 in
theorem ggX11_rust_X11_bad : GoodIn wsX11_rust wsX11_bad := goodIn_r _ [23, 24, 94, 95, 96, 97, 98, 99, 100, 101, 102, 103, 104] (by decide +kernel) (by decide +kernel)
set_option maxRecDepth 20000 in
theorem gX11_rust_X11_bad : GoodIn wsX11_rust (wsV RX11 70 RX11 yX11_bad wsX11_bad) := goodIn_app (goodIn_of _ (by decide +kernel)) ggX11_rust_X11_bad
set_option maxRecDepth 20000 in
theorem ggX11_rust_X0_ofRust : GoodIn wsX11_rust wsX0_ofRust := goodIn_r _ [29, 30, 31, 32, 33, 34, 35, 36, 37, 38, 39, 28, 40, 41, 18, 10, 19, 42, 43, 44, 6, 45, 46, 47, 48, 49, 50, 51, 52, 53, 54, 55, 56, 57, 58, 59, 60, 61, 62, 63, 64, 65, 66, 67, 68, 69, 70, 71, 72, 73, 74, 75, 8, 76, 77, 78, 79, 80, 81, 82, 83, 84, 85, 86, 87, 88, 89, 90, 91, 92, 93, 105, 106, 107, 108, 109, 110, 111, 112, 113, 114, 115, 116, 117, 118, 119, 120, 121] (by decide +kernel) (by decide +kernel)
set_option maxRecDepth 20000 in
theorem gX11_rust_X0_ofRust : GoodIn wsX11_rust (wsV RX11 251 RX0 yX0_ofRust wsX0_ofRust) := goodIn_app (goodIn_of _ (by decide +kernel)) ggX11_rust_X0_ofRust
theorem dX11_rust_0 : decode cX11_rust 0 = .ok (.aload_n 0, 1) := by decide +kernel
theorem dX11_rust_1 : decode cX11_rust 1 = .ok (.getfield 10, 3) := by decide +kernel
theorem dX11_rust_4 : decode cX11_rust 4 = .ok (.iload_n 1, 1) := by decide +kernel
theorem dX11_rust_5 : decode cX11_rust 5 = .ok (.invokevirtual 131, 3) := by decide +kernel
theorem dX11_rust_8 : decode cX11_rust 8 = .ok (.ifCond .eq 36, 3) := by decide +kernel
theorem dX11_rust_11 : decode cX11_rust 11 = .ok (.iload_n 2, 1) := by decide +kernel
theorem dX11_rust_12 : decode cX11_rust 12 = .ok (.iconst 0, 1) := by decide +kernel
theorem dX11_rust_13 : decode cX11_rust 13 = .ok (.aload_n 0, 1) := by decide +kernel
theorem dX11_rust_14 : decode cX11_rust 14 = .ok (.getfield 10, 3) := by decide +kernel
theorem dX11_rust_17 : decode cX11_rust 17 = .ok (.invokevirtual 244, 3) := by decide +kernel
theorem dX11_rust_20 : decode cX11_rust 20 = .ok (.invokestatic 66, 3) := by decide +kernel
theorem dX11_rust_23 : decode cX11_rust 23 = .ok (.ifCond .eq 21, 3) := by decide +kernel
theorem dX11_rust_26 : decode cX11_rust 26 = .ok (.iload_n 3, 1) := by decide +kernel
theorem dX11_rust_27 : decode cX11_rust 27 = .ok (.iconst 0, 1) := by decide +kernel
theorem dX11_rust_28 : decode cX11_rust 28 = .ok (.bipush 10, 2) := by decide +kernel
theorem dX11_rust_30 : decode cX11_rust 30 = .ok (.invokestatic 66, 3) := by decide +kernel
theorem dX11_rust_33 : decode cX11_rust 33 = .ok (.ifCond .eq 11, 3) := by decide +kernel
theorem dX11_rust_36 : decode cX11_rust 36 = .ok (.iload_n 2, 1) := by decide +kernel
theorem dX11_rust_37 : decode cX11_rust 37 = .ok (.iload_n 1, 1) := by decide +kernel
theorem dX11_rust_38 : decode cX11_rust 38 = .ok (.invokestatic 247, 3) := by decide +kernel
theorem dX11_rust_41 : decode cX11_rust 41 = .ok (.ifCond .eq 8, 3) := by decide +kernel
theorem dX11_rust_44 : decode cX11_rust 44 = .ok (.aload_n 0, 1) := by decide +kernel
theorem dX11_rust_45 : decode cX11_rust 45 = .ok (.invokevirtual 70, 3) := by decide +kernel
theorem dX11_rust_48 : decode cX11_rust 48 = .ok (.ireturn, 1) := by decide +kernel
theorem dX11_rust_49 : decode cX11_rust 49 = .ok (.aload_n 0, 1) := by decide +kernel
theorem dX11_rust_50 : decode cX11_rust 50 = .ok (.getfield 55, 3) := by decide +kernel
theorem dX11_rust_53 : decode cX11_rust 53 = .ok (.aload_n 0, 1) := by decide +kernel
theorem dX11_rust_54 : decode cX11_rust 54 = .ok (.getfield 10, 3) := by decide +kernel
theorem dX11_rust_57 : decode cX11_rust 57 = .ok (.iload_n 1, 1) := by decide +kernel
theorem dX11_rust_58 : decode cX11_rust 58 = .ok (.iload_n 2, 1) := by decide +kernel
theorem dX11_rust_59 : decode cX11_rust 59 = .ok (.iload_n 3, 1) := by decide +kernel
theorem dX11_rust_60 : decode cX11_rust 60 = .ok (.invokevirtual 251, 3) := by decide +kernel
theorem dX11_rust_63 : decode cX11_rust 63 = .ok (.iconst 1, 1) := by decide +kernel
theorem dX11_rust_64 : decode cX11_rust 64 = .ok (.ireturn, 1) := by decide +kernel
set_option maxRecDepth 20000 in
theorem ggX11_easters_X11_within : GoodIn wsX11_easters wsX11_within := goodIn_r _ [6] (by decide +kernel) (by decide +kernel)
set_option maxRecDepth 20000 in
theorem gX11_easters_X11_within : GoodIn wsX11_easters (va_wsS RX11 66 yX11_within wsX11_within) := goodIn_app (goodIn_of _ (by decide +kernel)) ggX11_easters_X11_within
set_option maxRecDepth 20000 in
theorem ggX11_easters_X11_bad : GoodIn wsX11_easters wsX11_bad := goodIn_r _ [10, 11, 77, 78, 79, 80, 81, 82, 83, 84, 85, 86, 87] (by decide +kernel) (by decide +kernel)
set_option maxRecDepth 20000 in
theorem gX11_easters_X11_bad : GoodIn wsX11_easters (wsV RX11 70 RX11 yX11_bad wsX11_bad) := goodIn_app (goodIn_of _ (by decide +kernel)) ggX11_easters_X11_bad
set_option maxRecDepth 20000 in
theorem ggX11_easters_X8_letOffBySeed : GoodIn wsX11_easters wsX8_letOffBySeed := goodIn_r _ [15, 16, 17, 18, 19, 20, 21, 22, 23, 24, 25, 26, 27, 4, 5, 6, 28, 29, 30, 31, 32, 33, 34, 35, 36, 37, 38, 39, 40, 41, 42, 43, 44, 45, 46, 47, 48, 49, 50, 51, 52, 53, 54, 55, 56, 57, 58, 59, 60, 61, 62, 63, 64, 65, 66, 67, 68, 69, 70, 71, 72, 73, 74, 75, 76, 88, 89, 90, 91, 92, 93, 94, 95, 96, 97, 98, 99, 100, 101, 102] (by decide +kernel) (by decide +kernel)
set_option maxRecDepth 20000 in
theorem gX11_easters_X8_letOffBySeed : GoodIn wsX11_easters (va_wsS RX11 256 yX8_letOffBySeed wsX8_letOffBySeed) := goodIn_app (goodIn_of _ (by decide +kernel)) ggX11_easters_X8_letOffBySeed
theorem dX11_easters_0 : decode cX11_easters 0 = .ok (.iload_n 1, 1) := by decide +kernel
theorem dX11_easters_1 : decode cX11_easters 1 = .ok (.iconst 0, 1) := by decide +kernel
theorem dX11_easters_2 : decode cX11_easters 2 = .ok (.ldc 255, 2) := by decide +kernel
theorem dX11_easters_4 : decode cX11_easters 4 = .ok (.invokestatic 66, 3) := by decide +kernel
theorem dX11_easters_7 : decode cX11_easters 7 = .ok (.ifCond .eq 13, 3) := by decide +kernel
theorem dX11_easters_10 : decode cX11_easters 10 = .ok (.iload_n 2, 1) := by decide +kernel
theorem dX11_easters_11 : decode cX11_easters 11 = .ok (.iconst 0, 1) := by decide +kernel
theorem dX11_easters_12 : decode cX11_easters 12 = .ok (.bipush 60, 2) := by decide +kernel
theorem dX11_easters_14 : decode cX11_easters 14 = .ok (.invokestatic 66, 3) := by decide +kernel
theorem dX11_easters_17 : decode cX11_easters 17 = .ok (.ifCond .ne 8, 3) := by decide +kernel
theorem dX11_easters_20 : decode cX11_easters 20 = .ok (.aload_n 0, 1) := by decide +kernel
theorem dX11_easters_21 : decode cX11_easters 21 = .ok (.invokevirtual 70, 3) := by decide +kernel
theorem dX11_easters_24 : decode cX11_easters 24 = .ok (.ireturn, 1) := by decide +kernel
theorem dX11_easters_25 : decode cX11_easters 25 = .ok (.aload_n 0, 1) := by decide +kernel
theorem dX11_easters_26 : decode cX11_easters 26 = .ok (.getfield 10, 3) := by decide +kernel
theorem dX11_easters_29 : decode cX11_easters 29 = .ok (.iload_n 1, 1) := by decide +kernel
theorem dX11_easters_30 : decode cX11_easters 30 = .ok (.iload_n 2, 1) := by decide +kernel
theorem dX11_easters_31 : decode cX11_easters 31 = .ok (.invokestatic 256, 3) := by decide +kernel
theorem dX11_easters_34 : decode cX11_easters 34 = .ok (.ireturn, 1) := by decide +kernel
set_option maxRecDepth 20000 in
theorem ggX11_part_X11_bad : GoodIn wsX11_part wsX11_bad := goodIn_r _ [8, 9, 10, 11, 12, 13, 14, 15, 16, 17, 18, 19, 20] (by decide +kernel) (by decide +kernel)
set_option maxRecDepth 20000 in
theorem gX11_part_X11_bad : GoodIn wsX11_part (wsV RX11 70 RX11 yX11_bad wsX11_bad) := goodIn_app (goodIn_of _ (by decide +kernel)) ggX11_part_X11_bad
theorem dX11_part_0 : decode cX11_part 0 = .ok (.iload_n 1, 1) := by decide +kernel
theorem dX11_part_1 : decode cX11_part 1 = .ok (.lookupswitch 43 #[(0, 27), (1, 35)], 27) := by decide +kernel
theorem dX11_part_28 : decode cX11_part 28 = .ok (.aload_n 0, 1) := by decide +kernel
theorem dX11_part_29 : decode cX11_part 29 = .ok (.getfield 55, 3) := by decide +kernel
theorem dX11_part_32 : decode cX11_part 32 = .ok (.getfield 260, 3) := by decide +kernel
theorem dX11_part_35 : decode cX11_part 35 = .ok (.lreturn, 1) := by decide +kernel
theorem dX11_part_36 : decode cX11_part 36 = .ok (.aload_n 0, 1) := by decide +kernel
theorem dX11_part_37 : decode cX11_part 37 = .ok (.getfield 55, 3) := by decide +kernel
theorem dX11_part_40 : decode cX11_part 40 = .ok (.getfield 264, 3) := by decide +kernel
theorem dX11_part_43 : decode cX11_part 43 = .ok (.lreturn, 1) := by decide +kernel
theorem dX11_part_44 : decode cX11_part 44 = .ok (.aload_n 0, 1) := by decide +kernel
theorem dX11_part_45 : decode cX11_part 45 = .ok (.invokevirtual 70, 3) := by decide +kernel
theorem dX11_part_48 : decode cX11_part 48 = .ok (.i2l, 1) := by decide +kernel
theorem dX11_part_49 : decode cX11_part 49 = .ok (.lreturn, 1) := by decide +kernel
set_option maxRecDepth 20000 in
theorem ggX11_image_X11_within : GoodIn wsX11_image wsX11_within := goodIn_r _ [7] (by decide +kernel) (by decide +kernel)
set_option maxRecDepth 20000 in
theorem gX11_image_X11_within : GoodIn wsX11_image (va_wsS RX11 66 yX11_within wsX11_within) := goodIn_app (goodIn_of _ (by decide +kernel)) ggX11_image_X11_within
set_option maxRecDepth 20000 in
theorem ggX11_image_X11_bad : GoodIn wsX11_image wsX11_bad := goodIn_r _ [11, 12, 53, 54, 55, 56, 57, 58, 59, 60, 61, 62, 63] (by decide +kernel) (by decide +kernel)
set_option maxRecDepth 20000 in
theorem gX11_image_X11_bad : GoodIn wsX11_image (wsV RX11 70 RX11 yX11_bad wsX11_bad) := goodIn_app (goodIn_of _ (by decide +kernel)) ggX11_image_X11_bad
set_option maxRecDepth 20000 in
theorem ggX11_image_X10_take : GoodIn wsX11_image wsX10_take := goodIn_r _ [17, 18, 19, 20, 21, 22, 23, 24, 25, 26, 27, 28, 29, 30, 31, 32, 33, 34, 35, 36, 37, 38, 39, 40, 41, 42, 43, 44, 45, 46, 47, 48, 49, 50, 51, 52, 64, 65, 66, 67, 68, 69, 70, 71, 72, 73, 74, 75, 76, 77, 78, 79, 80, 81, 82, 83] (by decide +kernel) (by decide +kernel)
set_option maxRecDepth 20000 in
theorem gX11_image_X10_take : GoodIn wsX11_image (wsV RX11 117 RX10 yX10_take wsX10_take) := goodIn_app (goodIn_of _ (by decide +kernel)) ggX11_image_X10_take
theorem dX11_image_0 : decode cX11_image 0 = .ok (.iload_n 1, 1) := by decide +kernel
theorem dX11_image_1 : decode cX11_image 1 = .ok (.iconst 0, 1) := by decide +kernel
theorem dX11_image_2 : decode cX11_image 2 = .ok (.iconst 1, 1) := by decide +kernel
theorem dX11_image_3 : decode cX11_image 3 = .ok (.invokestatic 66, 3) := by decide +kernel
theorem dX11_image_6 : decode cX11_image 6 = .ok (.ifCond .ne 8, 3) := by decide +kernel
theorem dX11_image_9 : decode cX11_image 9 = .ok (.aload_n 0, 1) := by decide +kernel
theorem dX11_image_10 : decode cX11_image 10 = .ok (.invokevirtual 70, 3) := by decide +kernel
theorem dX11_image_13 : decode cX11_image 13 = .ok (.ireturn, 1) := by decide +kernel
theorem dX11_image_14 : decode cX11_image 14 = .ok (.aload_n 0, 1) := by decide +kernel
theorem dX11_image_15 : decode cX11_image 15 = .ok (.getfield 16, 3) := by decide +kernel
theorem dX11_image_18 : decode cX11_image 18 = .ok (.iload_n 1, 1) := by decide +kernel
theorem dX11_image_19 : decode cX11_image 19 = .ok (.aaload, 1) := by decide +kernel
theorem dX11_image_20 : decode cX11_image 20 = .ok (.aload_n 0, 1) := by decide +kernel
theorem dX11_image_21 : decode cX11_image 21 = .ok (.getfield 10, 3) := by decide +kernel
theorem dX11_image_24 : decode cX11_image 24 = .ok (.invokevirtual 117, 3) := by decide +kernel
theorem dX11_image_27 : decode cX11_image 27 = .ok (.aload_n 0, 1) := by decide +kernel
theorem dX11_image_28 : decode cX11_image 28 = .ok (.getfield 20, 3) := by decide +kernel
theorem dX11_image_31 : decode cX11_image 31 = .ok (.iload_n 1, 1) := by decide +kernel
theorem dX11_image_32 : decode cX11_image 32 = .ok (.iconst 1, 1) := by decide +kernel
theorem dX11_image_33 : decode cX11_image 33 = .ok (.bastore, 1) := by decide +kernel
theorem dX11_image_34 : decode cX11_image 34 = .ok (.iconst 1, 1) := by decide +kernel
theorem dX11_image_35 : decode cX11_image 35 = .ok (.ireturn, 1) := by decide +kernel
set_option maxRecDepth 20000 in
theorem ggX11_from_X11_within : GoodIn wsX11_from wsX11_within := goodIn_r _ [7] (by decide +kernel) (by decide +kernel)
set_option maxRecDepth 20000 in
theorem gX11_from_X11_within : GoodIn wsX11_from (va_wsS RX11 66 yX11_within wsX11_within) := goodIn_app (goodIn_of _ (by decide +kernel)) ggX11_from_X11_within
set_option maxRecDepth 20000 in
theorem ggX11_from_X11_bad : GoodIn wsX11_from wsX11_bad := goodIn_r _ [11, 12, 58, 59, 60, 61, 62, 63, 64, 65, 66, 67, 68] (by decide +kernel) (by decide +kernel)
set_option maxRecDepth 20000 in
theorem gX11_from_X11_bad : GoodIn wsX11_from (wsV RX11 70 RX11 yX11_bad wsX11_bad) := goodIn_app (goodIn_of _ (by decide +kernel)) ggX11_from_X11_bad
set_option maxRecDepth 20000 in
theorem ggX11_from_X11_no : GoodIn wsX11_from wsX11_no := goodIn_r _ [16, 17, 58, 59, 60, 61, 62, 63, 64, 65, 66, 67, 68] (by decide +kernel) (by decide +kernel)
set_option maxRecDepth 20000 in
theorem gX11_from_X11_no : GoodIn wsX11_from (wsV RX11 138 RX11 yX11_no wsX11_no) := goodIn_app (goodIn_of _ (by decide +kernel)) ggX11_from_X11_no
set_option maxRecDepth 20000 in
theorem ggX11_from_X10_take : GoodIn wsX11_from wsX10_take := goodIn_r _ [22, 23, 24, 25, 26, 27, 28, 29, 30, 31, 32, 33, 34, 35, 36, 37, 38, 39, 40, 41, 42, 43, 44, 45, 46, 47, 48, 49, 50, 51, 52, 53, 54, 55, 56, 57, 69, 70, 71, 72, 73, 74, 75, 76, 77, 78, 79, 80, 81, 82, 83, 84, 85, 86, 87, 88] (by decide +kernel) (by decide +kernel)
set_option maxRecDepth 20000 in
theorem gX11_from_X10_take : GoodIn wsX11_from (wsV RX11 117 RX10 yX10_take wsX10_take) := goodIn_app (goodIn_of _ (by decide +kernel)) ggX11_from_X10_take
theorem dX11_from_0 : decode cX11_from 0 = .ok (.iload_n 1, 1) := by decide +kernel
theorem dX11_from_1 : decode cX11_from 1 = .ok (.iconst 0, 1) := by decide +kernel
theorem dX11_from_2 : decode cX11_from 2 = .ok (.iconst 1, 1) := by decide +kernel
theorem dX11_from_3 : decode cX11_from 3 = .ok (.invokestatic 66, 3) := by decide +kernel
theorem dX11_from_6 : decode cX11_from 6 = .ok (.ifCond .ne 8, 3) := by decide +kernel
theorem dX11_from_9 : decode cX11_from 9 = .ok (.aload_n 0, 1) := by decide +kernel
theorem dX11_from_10 : decode cX11_from 10 = .ok (.invokevirtual 70, 3) := by decide +kernel
theorem dX11_from_13 : decode cX11_from 13 = .ok (.ireturn, 1) := by decide +kernel
theorem dX11_from_14 : decode cX11_from 14 = .ok (.aload_n 0, 1) := by decide +kernel
theorem dX11_from_15 : decode cX11_from 15 = .ok (.getfield 20, 3) := by decide +kernel
theorem dX11_from_18 : decode cX11_from 18 = .ok (.iload_n 1, 1) := by decide +kernel
theorem dX11_from_19 : decode cX11_from 19 = .ok (.baload, 1) := by decide +kernel
theorem dX11_from_20 : decode cX11_from 20 = .ok (.ifCond .ne 8, 3) := by decide +kernel
theorem dX11_from_23 : decode cX11_from 23 = .ok (.aload_n 0, 1) := by decide +kernel
theorem dX11_from_24 : decode cX11_from 24 = .ok (.invokevirtual 138, 3) := by decide +kernel
theorem dX11_from_27 : decode cX11_from 27 = .ok (.ireturn, 1) := by decide +kernel
theorem dX11_from_28 : decode cX11_from 28 = .ok (.aload_n 0, 1) := by decide +kernel
theorem dX11_from_29 : decode cX11_from 29 = .ok (.getfield 10, 3) := by decide +kernel
theorem dX11_from_32 : decode cX11_from 32 = .ok (.aload_n 0, 1) := by decide +kernel
theorem dX11_from_33 : decode cX11_from 33 = .ok (.getfield 16, 3) := by decide +kernel
theorem dX11_from_36 : decode cX11_from 36 = .ok (.iload_n 1, 1) := by decide +kernel
theorem dX11_from_37 : decode cX11_from 37 = .ok (.aaload, 1) := by decide +kernel
theorem dX11_from_38 : decode cX11_from 38 = .ok (.invokevirtual 117, 3) := by decide +kernel
theorem dX11_from_41 : decode cX11_from 41 = .ok (.iconst 1, 1) := by decide +kernel
theorem dX11_from_42 : decode cX11_from 42 = .ok (.ireturn, 1) := by decide +kernel
set_option maxRecDepth 20000 in
theorem ggX11_status_X11_bad : GoodIn wsX11_status wsX11_bad := goodIn_r _ [8, 1, 9, 10, 11, 12, 13, 14, 15, 16, 17, 18, 19] (by decide +kernel) (by decide +kernel)
set_option maxRecDepth 20000 in
theorem gX11_status_X11_bad : GoodIn wsX11_status (wsV RX11 70 RX11 yX11_bad wsX11_bad) := goodIn_app (goodIn_of _ (by decide +kernel)) ggX11_status_X11_bad
theorem dX11_status_0 : decode cX11_status 0 = .ok (.iload_n 1, 1) := by decide +kernel
theorem dX11_status_1 : decode cX11_status 1 = .ok (.tableswitch 42 0 2 #[27, 32, 37], 27) := by decide +kernel
theorem dX11_status_28 : decode cX11_status 28 = .ok (.aload_n 0, 1) := by decide +kernel
theorem dX11_status_29 : decode cX11_status 29 = .ok (.getfield 267, 3) := by decide +kernel
theorem dX11_status_32 : decode cX11_status 32 = .ok (.ireturn, 1) := by decide +kernel
theorem dX11_status_33 : decode cX11_status 33 = .ok (.aload_n 0, 1) := by decide +kernel
theorem dX11_status_34 : decode cX11_status 34 = .ok (.getfield 270, 3) := by decide +kernel
theorem dX11_status_37 : decode cX11_status 37 = .ok (.ireturn, 1) := by decide +kernel
theorem dX11_status_38 : decode cX11_status 38 = .ok (.aload_n 0, 1) := by decide +kernel
theorem dX11_status_39 : decode cX11_status 39 = .ok (.getfield 273, 3) := by decide +kernel
theorem dX11_status_42 : decode cX11_status 42 = .ok (.ireturn, 1) := by decide +kernel
theorem dX11_status_43 : decode cX11_status 43 = .ok (.aload_n 0, 1) := by decide +kernel
theorem dX11_status_44 : decode cX11_status 44 = .ok (.invokevirtual 70, 3) := by decide +kernel
theorem dX11_status_47 : decode cX11_status 47 = .ok (.pop, 1) := by decide +kernel
theorem dX11_status_48 : decode cX11_status 48 = .ok (.iconst (-1), 1) := by decide +kernel
theorem dX11_status_49 : decode cX11_status 49 = .ok (.ireturn, 1) := by decide +kernel
set_option maxRecDepth 20000 in
theorem ggX11_count_X11_within : GoodIn wsX11_count wsX11_within := goodIn_r _ [4] (by decide +kernel) (by decide +kernel)
set_option maxRecDepth 20000 in
theorem gX11_count_X11_within : GoodIn wsX11_count (va_wsS RX11 66 yX11_within wsX11_within) := goodIn_app (goodIn_of _ (by decide +kernel)) ggX11_count_X11_within
set_option maxRecDepth 20000 in
theorem ggX11_count_X11_tally : GoodIn wsX11_count wsX11_tally := goodIn_r _ [8, 9, 10, 11, 12, 13, 14, 15, 16, 17, 18, 19, 20, 21, 22, 23, 24, 25, 26, 27, 28, 29, 30, 31, 32, 33, 34, 35, 36, 37, 38, 39, 40, 41, 42, 3, 43, 44, 45, 46, 47, 48, 54, 55, 56, 57, 58, 59, 60, 61, 62, 63, 64, 65, 66, 67, 68, 69, 70, 71, 72, 73, 74, 75, 76, 77, 78, 79, 80, 81, 82, 83, 84, 85, 86, 87, 88, 89, 90] (by decide +kernel) (by decide +kernel)
set_option maxRecDepth 20000 in
theorem gX11_count_X11_tally : GoodIn wsX11_count (wsV RX11 276 RX11 yX11_tally wsX11_tally) := goodIn_app (goodIn_of _ (by decide +kernel)) ggX11_count_X11_tally
set_option maxRecDepth 20000 in
theorem ggX11_count_X11_bad : GoodIn wsX11_count wsX11_bad := goodIn_r _ [52, 53, 54, 55, 56, 57, 58, 59, 60, 61, 62, 63, 64] (by decide +kernel) (by decide +kernel)
set_option maxRecDepth 20000 in
theorem gX11_count_X11_bad : GoodIn wsX11_count (wsV RX11 70 RX11 yX11_bad wsX11_bad) := goodIn_app (goodIn_of _ (by decide +kernel)) ggX11_count_X11_bad
theorem dX11_count_0 : decode cX11_count 0 = .ok (.iload_n 1, 1) := by decide +kernel
theorem dX11_count_1 : decode cX11_count 1 = .ok (.iconst 0, 1) := by decide +kernel
theorem dX11_count_2 : decode cX11_count 2 = .ok (.bipush 10, 2) := by decide +kernel
theorem dX11_count_4 : decode cX11_count 4 = .ok (.invokestatic 66, 3) := by decide +kernel
theorem dX11_count_7 : decode cX11_count 7 = .ok (.ifCond .eq 11, 3) := by decide +kernel
theorem dX11_count_10 : decode cX11_count 10 = .ok (.aload_n 0, 1) := by decide +kernel
theorem dX11_count_11 : decode cX11_count 11 = .ok (.iload_n 1, 1) := by decide +kernel
theorem dX11_count_12 : decode cX11_count 12 = .ok (.invokevirtual 276, 3) := by decide +kernel
theorem dX11_count_15 : decode cX11_count 15 = .ok (.goto 7, 3) := by decide +kernel
theorem dX11_count_18 : decode cX11_count 18 = .ok (.aload_n 0, 1) := by decide +kernel
theorem dX11_count_19 : decode cX11_count 19 = .ok (.invokevirtual 70, 3) := by decide +kernel
theorem dX11_count_22 : decode cX11_count 22 = .ok (.ireturn, 1) := by decide +kernel
set_option maxRecDepth 20000 in
theorem ggX11_digest_X11_tally : GoodIn wsX11_digest wsX11_tally := goodIn_r _ [11, 3, 12, 13, 14, 15, 16, 17, 18, 19, 20, 21, 22, 23, 24, 25, 26, 27, 28, 29, 30, 31, 32, 33, 34, 35, 36, 37, 38, 39, 40, 41, 42, 43, 44, 10, 45, 46, 47, 48, 49, 50, 96, 97, 98, 99, 100, 101, 102, 103, 104, 105, 106, 109, 110, 111, 112, 113, 114, 115, 116, 117, 118, 119, 120, 121, 122, 123, 124, 125, 126, 127, 128, 129, 130, 131, 132, 133, 134] (by decide +kernel) (by decide +kernel)
set_option maxRecDepth 20000 in
theorem gX11_digest_X11_tally : GoodIn wsX11_digest (wsV RX11 276 RX11 yX11_tally wsX11_tally) := goodIn_app (goodIn_of _ (by decide +kernel)) ggX11_digest_X11_tally
set_option maxRecDepth 20000 in
theorem ggX11_digest_X10_digestOn : GoodIn wsX11_digest wsX10_digestOn := goodIn_r _ [54, 36, 55, 56, 50, 41, 57, 58, 59, 60, 61, 62, 34, 63, 64, 42, 65, 66, 67, 43, 44, 10, 45, 68, 69, 70, 71, 72, 73, 74, 75, 76, 77, 78, 79, 80, 81, 82, 83, 84, 85, 86, 87, 88, 89, 90, 91, 92, 93, 94, 95, 109, 110, 111, 112, 113, 114, 115, 116, 117, 118, 119, 120, 121, 122, 123, 124, 125, 126] (by decide +kernel) (by decide +kernel)
set_option maxRecDepth 20000 in
theorem gX11_digest_X10_digestOn : GoodIn wsX11_digest (wsV RX11 283 RX10 yX10_digestOn wsX10_digestOn) := goodIn_app (goodIn_of _ (by decide +kernel)) ggX11_digest_X10_digestOn
theorem dX11_digest_0 : decode cX11_digest 0 = .ok (.ldc2_w 279, 3) := by decide +kernel
theorem dX11_digest_3 : decode cX11_digest 3 = .ok (.lstore_n 1, 1) := by decide +kernel
theorem dX11_digest_4 : decode cX11_digest 4 = .ok (.iconst 0, 1) := by decide +kernel
theorem dX11_digest_5 : decode cX11_digest 5 = .ok (.istore_n 3, 1) := by decide +kernel
theorem dX11_digest_6 : decode cX11_digest 6 = .ok (.iload_n 3, 1) := by decide +kernel
theorem dX11_digest_7 : decode cX11_digest 7 = .ok (.bipush 11, 2) := by decide +kernel
theorem dX11_digest_9 : decode cX11_digest 9 = .ok (.if_icmp .ge 22, 3) := by decide +kernel
theorem dX11_digest_12 : decode cX11_digest 12 = .ok (.ldc2_w 281, 3) := by decide +kernel
theorem dX11_digest_15 : decode cX11_digest 15 = .ok (.lload_n 1, 1) := by decide +kernel
theorem dX11_digest_16 : decode cX11_digest 16 = .ok (.lmul, 1) := by decide +kernel
theorem dX11_digest_17 : decode cX11_digest 17 = .ok (.aload_n 0, 1) := by decide +kernel
theorem dX11_digest_18 : decode cX11_digest 18 = .ok (.iload_n 3, 1) := by decide +kernel
theorem dX11_digest_19 : decode cX11_digest 19 = .ok (.invokevirtual 276, 3) := by decide +kernel
theorem dX11_digest_22 : decode cX11_digest 22 = .ok (.i2l, 1) := by decide +kernel
theorem dX11_digest_23 : decode cX11_digest 23 = .ok (.ladd, 1) := by decide +kernel
theorem dX11_digest_24 : decode cX11_digest 24 = .ok (.lstore_n 1, 1) := by decide +kernel
theorem dX11_digest_25 : decode cX11_digest 25 = .ok (.iinc 3 1, 3) := by decide +kernel
theorem dX11_digest_28 : decode cX11_digest 28 = .ok (.goto (-22), 3) := by decide +kernel
theorem dX11_digest_31 : decode cX11_digest 31 = .ok (.aload_n 0, 1) := by decide +kernel
theorem dX11_digest_32 : decode cX11_digest 32 = .ok (.getfield 10, 3) := by decide +kernel
theorem dX11_digest_35 : decode cX11_digest 35 = .ok (.lload_n 1, 1) := by decide +kernel
theorem dX11_digest_36 : decode cX11_digest 36 = .ok (.invokevirtual 283, 3) := by decide +kernel
theorem dX11_digest_39 : decode cX11_digest 39 = .ok (.lstore_n 1, 1) := by decide +kernel
theorem dX11_digest_40 : decode cX11_digest 40 = .ok (.ldc2_w 281, 3) := by decide +kernel
theorem dX11_digest_43 : decode cX11_digest 43 = .ok (.lload_n 1, 1) := by decide +kernel
theorem dX11_digest_44 : decode cX11_digest 44 = .ok (.lmul, 1) := by decide +kernel
theorem dX11_digest_45 : decode cX11_digest 45 = .ok (.aload_n 0, 1) := by decide +kernel
theorem dX11_digest_46 : decode cX11_digest 46 = .ok (.getfield 55, 3) := by decide +kernel
theorem dX11_digest_49 : decode cX11_digest 49 = .ok (.getfield 260, 3) := by decide +kernel
theorem dX11_digest_52 : decode cX11_digest 52 = .ok (.ladd, 1) := by decide +kernel
theorem dX11_digest_53 : decode cX11_digest 53 = .ok (.lstore_n 1, 1) := by decide +kernel
theorem dX11_digest_54 : decode cX11_digest 54 = .ok (.ldc2_w 281, 3) := by decide +kernel
theorem dX11_digest_57 : decode cX11_digest 57 = .ok (.lload_n 1, 1) := by decide +kernel
theorem dX11_digest_58 : decode cX11_digest 58 = .ok (.lmul, 1) := by decide +kernel
theorem dX11_digest_59 : decode cX11_digest 59 = .ok (.aload_n 0, 1) := by decide +kernel
theorem dX11_digest_60 : decode cX11_digest 60 = .ok (.getfield 55, 3) := by decide +kernel
theorem dX11_digest_63 : decode cX11_digest 63 = .ok (.getfield 264, 3) := by decide +kernel
theorem dX11_digest_66 : decode cX11_digest 66 = .ok (.ladd, 1) := by decide +kernel
theorem dX11_digest_67 : decode cX11_digest 67 = .ok (.lreturn, 1) := by decide +kernel
set_option maxRecDepth 20000 in
theorem ggX11_tally_J6_bitCount_0f7a4 : GoodIn wsX11_tally wsJ6_bitCount_0f7a4 := goodIn_r _ [17, 18, 19, 20] (by decide +kernel) (by decide +kernel)
set_option maxRecDepth 20000 in
theorem gX11_tally_J6_bitCount_0f7a4 : GoodIn wsX11_tally (va_wsS RX11 203 yJ6_bitCount_0f7a4 wsJ6_bitCount_0f7a4) := goodIn_app (goodIn_of _ (by decide +kernel)) ggX11_tally_J6_bitCount_0f7a4
set_option maxRecDepth 20000 in
theorem ggX11_tally_X10_guilty : GoodIn wsX11_tally wsX10_guilty := goodIn_r _ [25, 26, 27, 28, 29, 24, 30, 31, 32, 33, 34, 35, 36, 53, 54, 55, 56, 57, 58, 59, 60, 61, 62, 63, 64, 65, 66, 67] (by decide +kernel) (by decide +kernel)
set_option maxRecDepth 20000 in
theorem gX11_tally_X10_guilty : GoodIn wsX11_tally (wsV RX11 290 RX10 yX10_guilty wsX10_guilty) := goodIn_app (goodIn_of _ (by decide +kernel)) ggX11_tally_X10_guilty
set_option maxRecDepth 20000 in
theorem ggX11_tally_X10_strokes : GoodIn wsX11_tally wsX10_strokes := goodIn_r _ [40, 26, 41, 53, 54, 55, 56, 57, 58, 59, 60, 61, 62, 63, 64, 65, 66, 67] (by decide +kernel) (by decide +kernel)
set_option maxRecDepth 20000 in
theorem gX11_tally_X10_strokes : GoodIn wsX11_tally (wsV RX11 293 RX10 yX10_strokes wsX10_strokes) := goodIn_app (goodIn_of _ (by decide +kernel)) ggX11_tally_X10_strokes
theorem dX11_tally_0 : decode cX11_tally 0 = .ok (.iload_n 1, 1) := by decide +kernel
theorem dX11_tally_1 : decode cX11_tally 1 = .ok (.tableswitch 150 0 9 #[55, 63, 71, 82, 90, 98, 106, 117, 128, 139], 55) := by decide +kernel
theorem dX11_tally_56 : decode cX11_tally 56 = .ok (.aload_n 0, 1) := by decide +kernel
theorem dX11_tally_57 : decode cX11_tally 57 = .ok (.getfield 10, 3) := by decide +kernel
theorem dX11_tally_60 : decode cX11_tally 60 = .ok (.getfield 59, 3) := by decide +kernel
theorem dX11_tally_63 : decode cX11_tally 63 = .ok (.ireturn, 1) := by decide +kernel
theorem dX11_tally_64 : decode cX11_tally 64 = .ok (.aload_n 0, 1) := by decide +kernel
theorem dX11_tally_65 : decode cX11_tally 65 = .ok (.getfield 10, 3) := by decide +kernel
theorem dX11_tally_68 : decode cX11_tally 68 = .ok (.getfield 94, 3) := by decide +kernel
theorem dX11_tally_71 : decode cX11_tally 71 = .ok (.ireturn, 1) := by decide +kernel
theorem dX11_tally_72 : decode cX11_tally 72 = .ok (.aload_n 0, 1) := by decide +kernel
theorem dX11_tally_73 : decode cX11_tally 73 = .ok (.getfield 10, 3) := by decide +kernel
theorem dX11_tally_76 : decode cX11_tally 76 = .ok (.getfield 287, 3) := by decide +kernel
theorem dX11_tally_79 : decode cX11_tally 79 = .ok (.invokestatic 203, 3) := by decide +kernel
theorem dX11_tally_82 : decode cX11_tally 82 = .ok (.ireturn, 1) := by decide +kernel
theorem dX11_tally_83 : decode cX11_tally 83 = .ok (.aload_n 0, 1) := by decide +kernel
theorem dX11_tally_84 : decode cX11_tally 84 = .ok (.getfield 10, 3) := by decide +kernel
theorem dX11_tally_87 : decode cX11_tally 87 = .ok (.invokevirtual 290, 3) := by decide +kernel
theorem dX11_tally_90 : decode cX11_tally 90 = .ok (.ireturn, 1) := by decide +kernel
theorem dX11_tally_91 : decode cX11_tally 91 = .ok (.aload_n 0, 1) := by decide +kernel
theorem dX11_tally_92 : decode cX11_tally 92 = .ok (.getfield 10, 3) := by decide +kernel
theorem dX11_tally_95 : decode cX11_tally 95 = .ok (.getfield 128, 3) := by decide +kernel
theorem dX11_tally_98 : decode cX11_tally 98 = .ok (.ireturn, 1) := by decide +kernel
theorem dX11_tally_99 : decode cX11_tally 99 = .ok (.aload_n 0, 1) := by decide +kernel
theorem dX11_tally_100 : decode cX11_tally 100 = .ok (.getfield 10, 3) := by decide +kernel
theorem dX11_tally_103 : decode cX11_tally 103 = .ok (.invokevirtual 293, 3) := by decide +kernel
theorem dX11_tally_106 : decode cX11_tally 106 = .ok (.ireturn, 1) := by decide +kernel
theorem dX11_tally_107 : decode cX11_tally 107 = .ok (.aload_n 0, 1) := by decide +kernel
theorem dX11_tally_108 : decode cX11_tally 108 = .ok (.getfield 10, 3) := by decide +kernel
theorem dX11_tally_111 : decode cX11_tally 111 = .ok (.getfield 188, 3) := by decide +kernel
theorem dX11_tally_114 : decode cX11_tally 114 = .ok (.getfield 296, 3) := by decide +kernel
theorem dX11_tally_117 : decode cX11_tally 117 = .ok (.ireturn, 1) := by decide +kernel
theorem dX11_tally_118 : decode cX11_tally 118 = .ok (.aload_n 0, 1) := by decide +kernel
theorem dX11_tally_119 : decode cX11_tally 119 = .ok (.getfield 10, 3) := by decide +kernel
theorem dX11_tally_122 : decode cX11_tally 122 = .ok (.getfield 217, 3) := by decide +kernel
theorem dX11_tally_125 : decode cX11_tally 125 = .ok (.getfield 296, 3) := by decide +kernel
theorem dX11_tally_128 : decode cX11_tally 128 = .ok (.ireturn, 1) := by decide +kernel
theorem dX11_tally_129 : decode cX11_tally 129 = .ok (.aload_n 0, 1) := by decide +kernel
theorem dX11_tally_130 : decode cX11_tally 130 = .ok (.getfield 10, 3) := by decide +kernel
theorem dX11_tally_133 : decode cX11_tally 133 = .ok (.getfield 220, 3) := by decide +kernel
theorem dX11_tally_136 : decode cX11_tally 136 = .ok (.getfield 296, 3) := by decide +kernel
theorem dX11_tally_139 : decode cX11_tally 139 = .ok (.ireturn, 1) := by decide +kernel
theorem dX11_tally_140 : decode cX11_tally 140 = .ok (.aload_n 0, 1) := by decide +kernel
theorem dX11_tally_141 : decode cX11_tally 141 = .ok (.getfield 10, 3) := by decide +kernel
theorem dX11_tally_144 : decode cX11_tally 144 = .ok (.getfield 77, 3) := by decide +kernel
theorem dX11_tally_147 : decode cX11_tally 147 = .ok (.getfield 81, 3) := by decide +kernel
theorem dX11_tally_150 : decode cX11_tally 150 = .ok (.ireturn, 1) := by decide +kernel
theorem dX11_tally_151 : decode cX11_tally 151 = .ok (.aload_n 0, 1) := by decide +kernel
theorem dX11_tally_152 : decode cX11_tally 152 = .ok (.getfield 27, 3) := by decide +kernel
theorem dX11_tally_155 : decode cX11_tally 155 = .ok (.getfield 101, 3) := by decide +kernel
theorem dX11_tally_158 : decode cX11_tally 158 = .ok (.ireturn, 1) := by decide +kernel
theorem dX11_bad_0 : decode cX11_bad 0 = .ok (.aload_n 0, 1) := by decide +kernel
theorem dX11_bad_1 : decode cX11_bad 1 = .ok (.dup, 1) := by decide +kernel
theorem dX11_bad_2 : decode cX11_bad 2 = .ok (.getfield 267, 3) := by decide +kernel
theorem dX11_bad_5 : decode cX11_bad 5 = .ok (.iconst 1, 1) := by decide +kernel
theorem dX11_bad_6 : decode cX11_bad 6 = .ok (.iadd, 1) := by decide +kernel
theorem dX11_bad_7 : decode cX11_bad 7 = .ok (.putfield 267, 3) := by decide +kernel
theorem dX11_bad_10 : decode cX11_bad 10 = .ok (.bipush (-2), 2) := by decide +kernel
theorem dX11_bad_12 : decode cX11_bad 12 = .ok (.ireturn, 1) := by decide +kernel
theorem dX11_no_0 : decode cX11_no 0 = .ok (.aload_n 0, 1) := by decide +kernel
theorem dX11_no_1 : decode cX11_no 1 = .ok (.dup, 1) := by decide +kernel
theorem dX11_no_2 : decode cX11_no 2 = .ok (.getfield 270, 3) := by decide +kernel
theorem dX11_no_5 : decode cX11_no 5 = .ok (.iconst 1, 1) := by decide +kernel
theorem dX11_no_6 : decode cX11_no 6 = .ok (.iadd, 1) := by decide +kernel
theorem dX11_no_7 : decode cX11_no 7 = .ok (.putfield 270, 3) := by decide +kernel
theorem dX11_no_10 : decode cX11_no 10 = .ok (.bipush (-3), 2) := by decide +kernel
theorem dX11_no_12 : decode cX11_no 12 = .ok (.ireturn, 1) := by decide +kernel
theorem dX11_full_0 : decode cX11_full 0 = .ok (.aload_n 0, 1) := by decide +kernel
theorem dX11_full_1 : decode cX11_full 1 = .ok (.dup, 1) := by decide +kernel
theorem dX11_full_2 : decode cX11_full 2 = .ok (.getfield 273, 3) := by decide +kernel
theorem dX11_full_5 : decode cX11_full 5 = .ok (.iconst 1, 1) := by decide +kernel
theorem dX11_full_6 : decode cX11_full 6 = .ok (.iadd, 1) := by decide +kernel
theorem dX11_full_7 : decode cX11_full 7 = .ok (.putfield 273, 3) := by decide +kernel
theorem dX11_full_10 : decode cX11_full 10 = .ok (.bipush (-4), 2) := by decide +kernel
theorem dX11_full_12 : decode cX11_full 12 = .ok (.ireturn, 1) := by decide +kernel
set_option maxRecDepth 20000 in
theorem ggX11_lowest_X11_holds : GoodIn wsX11_lowest wsX11_holds := goodIn_r _ [4] (by decide +kernel) (by decide +kernel)
set_option maxRecDepth 20000 in
theorem gX11_lowest_X11_holds : GoodIn wsX11_lowest (va_wsS RX11 247 yX11_holds wsX11_holds) := goodIn_app (goodIn_of _ (by decide +kernel)) ggX11_lowest_X11_holds
theorem dX11_lowest_0 : decode cX11_lowest 0 = .ok (.iconst 0, 1) := by decide +kernel
theorem dX11_lowest_1 : decode cX11_lowest 1 = .ok (.istore_n 1, 1) := by decide +kernel
theorem dX11_lowest_2 : decode cX11_lowest 2 = .ok (.iload_n 1, 1) := by decide +kernel
theorem dX11_lowest_3 : decode cX11_lowest 3 = .ok (.bipush 31, 2) := by decide +kernel
theorem dX11_lowest_5 : decode cX11_lowest 5 = .ok (.if_icmp .ge 19, 3) := by decide +kernel
theorem dX11_lowest_8 : decode cX11_lowest 8 = .ok (.iload_n 0, 1) := by decide +kernel
theorem dX11_lowest_9 : decode cX11_lowest 9 = .ok (.iload_n 1, 1) := by decide +kernel
theorem dX11_lowest_10 : decode cX11_lowest 10 = .ok (.invokestatic 247, 3) := by decide +kernel
theorem dX11_lowest_13 : decode cX11_lowest 13 = .ok (.ifCond .eq 5, 3) := by decide +kernel
theorem dX11_lowest_16 : decode cX11_lowest 16 = .ok (.iload_n 1, 1) := by decide +kernel
theorem dX11_lowest_17 : decode cX11_lowest 17 = .ok (.ireturn, 1) := by decide +kernel
theorem dX11_lowest_18 : decode cX11_lowest 18 = .ok (.iinc 1 1, 3) := by decide +kernel
theorem dX11_lowest_21 : decode cX11_lowest 21 = .ok (.goto (-19), 3) := by decide +kernel
theorem dX11_lowest_24 : decode cX11_lowest 24 = .ok (.iconst (-1), 1) := by decide +kernel
theorem dX11_lowest_25 : decode cX11_lowest 25 = .ok (.ireturn, 1) := by decide +kernel
set_option maxRecDepth 20000 in
theorem ggX11_highest_X11_holds : GoodIn wsX11_highest wsX11_holds := goodIn_r _ [4] (by decide +kernel) (by decide +kernel)
set_option maxRecDepth 20000 in
theorem gX11_highest_X11_holds : GoodIn wsX11_highest (va_wsS RX11 247 yX11_holds wsX11_holds) := goodIn_app (goodIn_of _ (by decide +kernel)) ggX11_highest_X11_holds
theorem dX11_highest_0 : decode cX11_highest 0 = .ok (.bipush 30, 2) := by decide +kernel
theorem dX11_highest_2 : decode cX11_highest 2 = .ok (.istore_n 1, 1) := by decide +kernel
theorem dX11_highest_3 : decode cX11_highest 3 = .ok (.iload_n 1, 1) := by decide +kernel
theorem dX11_highest_4 : decode cX11_highest 4 = .ok (.ifCond .lt 19, 3) := by decide +kernel
theorem dX11_highest_7 : decode cX11_highest 7 = .ok (.iload_n 0, 1) := by decide +kernel
theorem dX11_highest_8 : decode cX11_highest 8 = .ok (.iload_n 1, 1) := by decide +kernel
theorem dX11_highest_9 : decode cX11_highest 9 = .ok (.invokestatic 247, 3) := by decide +kernel
theorem dX11_highest_12 : decode cX11_highest 12 = .ok (.ifCond .eq 5, 3) := by decide +kernel
theorem dX11_highest_15 : decode cX11_highest 15 = .ok (.iload_n 1, 1) := by decide +kernel
theorem dX11_highest_16 : decode cX11_highest 16 = .ok (.ireturn, 1) := by decide +kernel
theorem dX11_highest_17 : decode cX11_highest 17 = .ok (.iinc 1 (-1), 3) := by decide +kernel
theorem dX11_highest_20 : decode cX11_highest 20 = .ok (.goto (-17), 3) := by decide +kernel
theorem dX11_highest_23 : decode cX11_highest 23 = .ok (.iconst (-1), 1) := by decide +kernel
theorem dX11_highest_24 : decode cX11_highest 24 = .ok (.ireturn, 1) := by decide +kernel
set_option maxRecDepth 20000 in
theorem ggX12_init_X12_begin : GoodIn wsX12_init wsX12_begin := goodIn_r _ [22] (by decide +kernel) (by decide +kernel)
set_option maxRecDepth 20000 in
theorem gX12_init_X12_begin : GoodIn wsX12_init (va_wsS RX12 51 yX12_begin wsX12_begin) := goodIn_app (goodIn_of _ (by decide +kernel)) ggX12_init_X12_begin
