set_option maxRecDepth 20000 in
theorem ggX5_init_X0_init : GoodIn wsX5_init wsX0_init := goodIn_r _ [29, 30, 2, 3, 31, 32, 33, 34, 35, 80, 81, 82, 83] (by decide +kernel) (by decide +kernel)
set_option maxRecDepth 20000 in
theorem gX5_init_X0_init_n23 : GoodIn wsX5_init (wsX0_init) := ggX5_init_X0_init
set_option maxRecDepth 20000 in
theorem ggX5_init_X1_init : GoodIn wsX5_init wsX1_init := goodIn_r _ [37, 38, 2, 3, 31, 39, 84] (by decide +kernel) (by decide +kernel)
set_option maxRecDepth 20000 in
theorem gX5_init_X1_init_n28 : GoodIn wsX5_init (wsX1_init) := ggX5_init_X1_init
set_option maxRecDepth 20000 in
theorem ggX5_init_X2_init : GoodIn wsX5_init wsX2_init := goodIn_r _ [42, 43, 2, 3, 44, 12, 13, 45, 31, 46, 47, 48, 49, 36, 37, 38, 39, 50, 51, 52, 53, 84, 85, 86, 87, 88, 89] (by decide +kernel) (by decide +kernel)
set_option maxRecDepth 20000 in
theorem gX5_init_X2_init : GoodIn wsX5_init (wsX2_init) := ggX5_init_X2_init
set_option maxRecDepth 20000 in
theorem ggX5_init_X4_init : GoodIn wsX5_init wsX4_init := goodIn_r _ [55, 56, 2, 3, 57, 12, 13, 58, 31, 59, 60, 61, 62, 63, 36, 37, 38, 39, 84, 90, 91, 92, 93, 94, 95] (by decide +kernel) (by decide +kernel)
set_option maxRecDepth 20000 in
theorem gX5_init_X4_init_n48 : GoodIn wsX5_init (wsX4_init) := ggX5_init_X4_init
set_option maxRecDepth 20000 in
theorem ggX5_init_X3_init : GoodIn wsX5_init wsX3_init := goodIn_r _ [65, 66, 2, 3, 31, 67, 68, 69, 70, 96, 97, 98, 99] (by decide +kernel) (by decide +kernel)
set_option maxRecDepth 20000 in
theorem gX5_init_X3_init_n57 : GoodIn wsX5_init (wsX3_init) := ggX5_init_X3_init
theorem dX5_init_0 : decode cX5_init 0 = .ok (.aload_n 0, 1) := by decide +kernel
theorem dX5_init_1 : decode cX5_init 1 = .ok (.invokespecial 1, 3) := by decide +kernel
theorem dX5_init_4 : decode cX5_init 4 = .ok (.aload_n 0, 1) := by decide +kernel
theorem dX5_init_5 : decode cX5_init 5 = .ok (.iconst 4, 1) := by decide +kernel
theorem dX5_init_6 : decode cX5_init 6 = .ok (.anewarray 9, 3) := by decide +kernel
theorem dX5_init_9 : decode cX5_init 9 = .ok (.putfield 11, 3) := by decide +kernel
theorem dX5_init_12 : decode cX5_init 12 = .ok (.aload_n 0, 1) := by decide +kernel
theorem dX5_init_13 : decode cX5_init 13 = .ok (.iconst 4, 1) := by decide +kernel
theorem dX5_init_14 : decode cX5_init 14 = .ok (.anewarray 15, 3) := by decide +kernel
theorem dX5_init_17 : decode cX5_init 17 = .ok (.putfield 17, 3) := by decide +kernel
theorem dX5_init_20 : decode cX5_init 20 = .ok (.aload_n 0, 1) := by decide +kernel
theorem dX5_init_21 : decode cX5_init 21 = .ok (.new 21, 3) := by decide +kernel
theorem dX5_init_24 : decode cX5_init 24 = .ok (.dup, 1) := by decide +kernel
theorem dX5_init_25 : decode cX5_init 25 = .ok (.invokespecial 23, 3) := by decide +kernel
theorem dX5_init_28 : decode cX5_init 28 = .ok (.putfield 24, 3) := by decide +kernel
theorem dX5_init_31 : decode cX5_init 31 = .ok (.aload_n 0, 1) := by decide +kernel
theorem dX5_init_32 : decode cX5_init 32 = .ok (.new 9, 3) := by decide +kernel
theorem dX5_init_35 : decode cX5_init 35 = .ok (.dup, 1) := by decide +kernel
theorem dX5_init_36 : decode cX5_init 36 = .ok (.invokespecial 28, 3) := by decide +kernel
theorem dX5_init_39 : decode cX5_init 39 = .ok (.putfield 29, 3) := by decide +kernel
theorem dX5_init_42 : decode cX5_init 42 = .ok (.aload_n 0, 1) := by decide +kernel
theorem dX5_init_43 : decode cX5_init 43 = .ok (.new 9, 3) := by decide +kernel
theorem dX5_init_46 : decode cX5_init 46 = .ok (.dup, 1) := by decide +kernel
theorem dX5_init_47 : decode cX5_init 47 = .ok (.invokespecial 28, 3) := by decide +kernel
theorem dX5_init_50 : decode cX5_init 50 = .ok (.putfield 33, 3) := by decide +kernel
theorem dX5_init_53 : decode cX5_init 53 = .ok (.aload_n 0, 1) := by decide +kernel
theorem dX5_init_54 : decode cX5_init 54 = .ok (.new 36, 3) := by decide +kernel
theorem dX5_init_57 : decode cX5_init 57 = .ok (.dup, 1) := by decide +kernel
theorem dX5_init_58 : decode cX5_init 58 = .ok (.invokespecial 38, 3) := by decide +kernel
theorem dX5_init_61 : decode cX5_init 61 = .ok (.putfield 39, 3) := by decide +kernel
theorem dX5_init_64 : decode cX5_init 64 = .ok (.aload_n 0, 1) := by decide +kernel
theorem dX5_init_65 : decode cX5_init 65 = .ok (.new 36, 3) := by decide +kernel
theorem dX5_init_68 : decode cX5_init 68 = .ok (.dup, 1) := by decide +kernel
theorem dX5_init_69 : decode cX5_init 69 = .ok (.invokespecial 38, 3) := by decide +kernel
theorem dX5_init_72 : decode cX5_init 72 = .ok (.putfield 43, 3) := by decide +kernel
theorem dX5_init_75 : decode cX5_init 75 = .ok (.aload_n 0, 1) := by decide +kernel
theorem dX5_init_76 : decode cX5_init 76 = .ok (.new 46, 3) := by decide +kernel
theorem dX5_init_79 : decode cX5_init 79 = .ok (.dup, 1) := by decide +kernel
theorem dX5_init_80 : decode cX5_init 80 = .ok (.invokespecial 48, 3) := by decide +kernel
theorem dX5_init_83 : decode cX5_init 83 = .ok (.putfield 49, 3) := by decide +kernel
theorem dX5_init_86 : decode cX5_init 86 = .ok (.aload_n 0, 1) := by decide +kernel
theorem dX5_init_87 : decode cX5_init 87 = .ok (.iconst 0, 1) := by decide +kernel
theorem dX5_init_88 : decode cX5_init 88 = .ok (.putfield 53, 3) := by decide +kernel
theorem dX5_init_91 : decode cX5_init 91 = .ok (.iconst 0, 1) := by decide +kernel
theorem dX5_init_92 : decode cX5_init 92 = .ok (.istore_n 1, 1) := by decide +kernel
theorem dX5_init_93 : decode cX5_init 93 = .ok (.iload_n 1, 1) := by decide +kernel
theorem dX5_init_94 : decode cX5_init 94 = .ok (.iconst 4, 1) := by decide +kernel
theorem dX5_init_95 : decode cX5_init 95 = .ok (.if_icmp .ge 22, 3) := by decide +kernel
theorem dX5_init_98 : decode cX5_init 98 = .ok (.aload_n 0, 1) := by decide +kernel
theorem dX5_init_99 : decode cX5_init 99 = .ok (.getfield 11, 3) := by decide +kernel
theorem dX5_init_102 : decode cX5_init 102 = .ok (.iload_n 1, 1) := by decide +kernel
theorem dX5_init_103 : decode cX5_init 103 = .ok (.new 9, 3) := by decide +kernel
theorem dX5_init_106 : decode cX5_init 106 = .ok (.dup, 1) := by decide +kernel
theorem dX5_init_107 : decode cX5_init 107 = .ok (.invokespecial 28, 3) := by decide +kernel
theorem dX5_init_110 : decode cX5_init 110 = .ok (.aastore, 1) := by decide +kernel
theorem dX5_init_111 : decode cX5_init 111 = .ok (.iinc 1 1, 3) := by decide +kernel
theorem dX5_init_114 : decode cX5_init 114 = .ok (.goto (-21), 3) := by decide +kernel
theorem dX5_init_117 : decode cX5_init 117 = .ok (.iconst 0, 1) := by decide +kernel
theorem dX5_init_118 : decode cX5_init 118 = .ok (.istore_n 1, 1) := by decide +kernel
theorem dX5_init_119 : decode cX5_init 119 = .ok (.iload_n 1, 1) := by decide +kernel
theorem dX5_init_120 : decode cX5_init 120 = .ok (.iconst 4, 1) := by decide +kernel
theorem dX5_init_121 : decode cX5_init 121 = .ok (.if_icmp .ge 22, 3) := by decide +kernel
theorem dX5_init_124 : decode cX5_init 124 = .ok (.aload_n 0, 1) := by decide +kernel
theorem dX5_init_125 : decode cX5_init 125 = .ok (.getfield 17, 3) := by decide +kernel
theorem dX5_init_128 : decode cX5_init 128 = .ok (.iload_n 1, 1) := by decide +kernel
theorem dX5_init_129 : decode cX5_init 129 = .ok (.new 15, 3) := by decide +kernel
theorem dX5_init_132 : decode cX5_init 132 = .ok (.dup, 1) := by decide +kernel
theorem dX5_init_133 : decode cX5_init 133 = .ok (.invokespecial 57, 3) := by decide +kernel
theorem dX5_init_136 : decode cX5_init 136 = .ok (.aastore, 1) := by decide +kernel
theorem dX5_init_137 : decode cX5_init 137 = .ok (.iinc 1 1, 3) := by decide +kernel
theorem dX5_init_140 : decode cX5_init 140 = .ok (.goto (-21), 3) := by decide +kernel
theorem dX5_init_143 : decode cX5_init 143 = .ok (.return_, 1) := by decide +kernel
set_option maxRecDepth 20000 in
theorem ggX5_fill_X5_isMask : GoodIn wsX5_fill wsX5_isMask := goodIn_r _ [6, 7, 8, 5, 9] (by decide +kernel) (by decide +kernel)
set_option maxRecDepth 20000 in
theorem gX5_fill_X5_isMask : GoodIn wsX5_fill (va_wsS RX5 58 yX5_isMask wsX5_isMask) := goodIn_app (goodIn_of _ (by decide +kernel)) ggX5_fill_X5_isMask
set_option maxRecDepth 20000 in
theorem ggX5_fill_X5_isCell : GoodIn wsX5_fill wsX5_isCell := goodIn_r _ [12, 7, 8, 5, 9] (by decide +kernel) (by decide +kernel)
set_option maxRecDepth 20000 in
theorem gX5_fill_X5_isCell : GoodIn wsX5_fill (va_wsS RX5 62 yX5_isCell wsX5_isCell) := goodIn_app (goodIn_of _ (by decide +kernel)) ggX5_fill_X5_isCell
set_option maxRecDepth 20000 in
theorem ggX5_fill_X5_within : GoodIn wsX5_fill wsX5_within := goodIn_r _ [9] (by decide +kernel) (by decide +kernel)
set_option maxRecDepth 20000 in
theorem gX5_fill_X5_within : GoodIn wsX5_fill (va_wsS RX5 66 yX5_within wsX5_within) := goodIn_app (goodIn_of _ (by decide +kernel)) ggX5_fill_X5_within
set_option maxRecDepth 20000 in
theorem ggX5_fill_X1_take : GoodIn wsX5_fill wsX1_take := goodIn_r _ [17, 18, 75] (by decide +kernel) (by decide +kernel)
set_option maxRecDepth 20000 in
theorem gX5_fill_X1_take : GoodIn wsX5_fill (wsV RX5 69 RX1 yX1_take wsX1_take) := goodIn_app (goodIn_of _ (by decide +kernel)) ggX5_fill_X1_take
set_option maxRecDepth 20000 in
theorem ggX5_fill_X1_paint : GoodIn wsX5_fill wsX1_paint := goodIn_r _ [22, 23, 24, 25, 16, 26, 18, 27, 28, 29, 30, 31, 8, 5, 9, 75] (by decide +kernel) (by decide +kernel)
set_option maxRecDepth 20000 in
theorem gX5_fill_X1_paint : GoodIn wsX5_fill (wsV RX5 73 RX1 yX1_paint wsX1_paint) := goodIn_app (goodIn_of _ (by decide +kernel)) ggX5_fill_X1_paint
set_option maxRecDepth 20000 in
theorem ggX5_fill_X5_become : GoodIn wsX5_fill wsX5_become := goodIn_r _ [35, 36, 2, 1, 37, 38, 39, 40, 41, 42, 43, 44, 45, 46, 47, 48, 49, 50, 51, 52, 53, 54, 24, 25, 16, 26, 18, 13, 14, 15, 17, 55, 56, 57, 58, 59, 60, 61, 62, 63, 64, 65, 66, 67, 68, 69, 70, 71, 72, 73, 74, 76, 77, 78, 79, 75] (by decide +kernel) (by decide +kernel)
set_option maxRecDepth 20000 in
theorem gX5_fill_X5_become : GoodIn wsX5_fill (wsV RX5 77 RX5 yX5_become wsX5_become) := goodIn_app (goodIn_of _ (by decide +kernel)) ggX5_fill_X5_become
theorem dX5_fill_0 : decode cX5_fill 0 = .ok (.iload_n 1, 1) := by decide +kernel
theorem dX5_fill_1 : decode cX5_fill 1 = .ok (.invokestatic 58, 3) := by decide +kernel
theorem dX5_fill_4 : decode cX5_fill 4 = .ok (.ifCond .eq 40, 3) := by decide +kernel
theorem dX5_fill_7 : decode cX5_fill 7 = .ok (.iload_n 2, 1) := by decide +kernel
theorem dX5_fill_8 : decode cX5_fill 8 = .ok (.iload_n 3, 1) := by decide +kernel
theorem dX5_fill_9 : decode cX5_fill 9 = .ok (.invokestatic 62, 3) := by decide +kernel
theorem dX5_fill_12 : decode cX5_fill 12 = .ok (.ifCond .eq 32, 3) := by decide +kernel
theorem dX5_fill_15 : decode cX5_fill 15 = .ok (.iload 4, 2) := by decide +kernel
theorem dX5_fill_17 : decode cX5_fill 17 = .ok (.bipush 17, 2) := by decide +kernel
theorem dX5_fill_19 : decode cX5_fill 19 = .ok (.invokestatic 66, 3) := by decide +kernel
theorem dX5_fill_22 : decode cX5_fill 22 = .ok (.ifCond .eq 22, 3) := by decide +kernel
theorem dX5_fill_25 : decode cX5_fill 25 = .ok (.iload 5, 2) := by decide +kernel
theorem dX5_fill_27 : decode cX5_fill 27 = .ok (.bipush 17, 2) := by decide +kernel
theorem dX5_fill_29 : decode cX5_fill 29 = .ok (.invokestatic 66, 3) := by decide +kernel
theorem dX5_fill_32 : decode cX5_fill 32 = .ok (.ifCond .eq 12, 3) := by decide +kernel
theorem dX5_fill_35 : decode cX5_fill 35 = .ok (.iload 6, 2) := by decide +kernel
theorem dX5_fill_37 : decode cX5_fill 37 = .ok (.iconst 2, 1) := by decide +kernel
theorem dX5_fill_38 : decode cX5_fill 38 = .ok (.invokestatic 66, 3) := by decide +kernel
theorem dX5_fill_41 : decode cX5_fill 41 = .ok (.ifCond .ne 6, 3) := by decide +kernel
theorem dX5_fill_44 : decode cX5_fill 44 = .ok (.bipush (-2), 2) := by decide +kernel
theorem dX5_fill_46 : decode cX5_fill 46 = .ok (.ireturn, 1) := by decide +kernel
theorem dX5_fill_47 : decode cX5_fill 47 = .ok (.aload_n 0, 1) := by decide +kernel
theorem dX5_fill_48 : decode cX5_fill 48 = .ok (.getfield 29, 3) := by decide +kernel
theorem dX5_fill_51 : decode cX5_fill 51 = .ok (.aload_n 0, 1) := by decide +kernel
theorem dX5_fill_52 : decode cX5_fill 52 = .ok (.getfield 11, 3) := by decide +kernel
theorem dX5_fill_55 : decode cX5_fill 55 = .ok (.iload_n 1, 1) := by decide +kernel
theorem dX5_fill_56 : decode cX5_fill 56 = .ok (.aaload, 1) := by decide +kernel
theorem dX5_fill_57 : decode cX5_fill 57 = .ok (.invokevirtual 69, 3) := by decide +kernel
theorem dX5_fill_60 : decode cX5_fill 60 = .ok (.aload_n 0, 1) := by decide +kernel
theorem dX5_fill_61 : decode cX5_fill 61 = .ok (.getfield 29, 3) := by decide +kernel
theorem dX5_fill_64 : decode cX5_fill 64 = .ok (.iload_n 2, 1) := by decide +kernel
theorem dX5_fill_65 : decode cX5_fill 65 = .ok (.iload_n 3, 1) := by decide +kernel
theorem dX5_fill_66 : decode cX5_fill 66 = .ok (.iload 4, 2) := by decide +kernel
theorem dX5_fill_68 : decode cX5_fill 68 = .ok (.iload 5, 2) := by decide +kernel
theorem dX5_fill_70 : decode cX5_fill 70 = .ok (.iload 6, 2) := by decide +kernel
theorem dX5_fill_72 : decode cX5_fill 72 = .ok (.invokevirtual 73, 3) := by decide +kernel
theorem dX5_fill_75 : decode cX5_fill 75 = .ok (.aload_n 0, 1) := by decide +kernel
theorem dX5_fill_76 : decode cX5_fill 76 = .ok (.iload_n 1, 1) := by decide +kernel
theorem dX5_fill_77 : decode cX5_fill 77 = .ok (.invokevirtual 77, 3) := by decide +kernel
theorem dX5_fill_80 : decode cX5_fill 80 = .ok (.ireturn, 1) := by decide +kernel
set_option maxRecDepth 20000 in
theorem ggX5_dots_X5_isMask : GoodIn wsX5_dots wsX5_isMask := goodIn_r _ [7, 8, 9, 6, 10] (by decide +kernel) (by decide +kernel)
set_option maxRecDepth 20000 in
theorem gX5_dots_X5_isMask : GoodIn wsX5_dots (va_wsS RX5 58 yX5_isMask wsX5_isMask) := goodIn_app (goodIn_of _ (by decide +kernel)) ggX5_dots_X5_isMask
set_option maxRecDepth 20000 in
theorem ggX5_dots_X5_within : GoodIn wsX5_dots wsX5_within := goodIn_r _ [10] (by decide +kernel) (by decide +kernel)
set_option maxRecDepth 20000 in
theorem gX5_dots_X5_within : GoodIn wsX5_dots (va_wsS RX5 66 yX5_within wsX5_within) := goodIn_app (goodIn_of _ (by decide +kernel)) ggX5_dots_X5_within
set_option maxRecDepth 20000 in
theorem ggX5_dots_X1_take : GoodIn wsX5_dots wsX1_take := goodIn_r _ [15, 16, 73] (by decide +kernel) (by decide +kernel)
set_option maxRecDepth 20000 in
theorem gX5_dots_X1_take : GoodIn wsX5_dots (wsV RX5 69 RX1 yX1_take wsX1_take) := goodIn_app (goodIn_of _ (by decide +kernel)) ggX5_dots_X1_take
set_option maxRecDepth 20000 in
theorem ggX5_dots_X1_flip : GoodIn wsX5_dots wsX1_flip := goodIn_r _ [20, 21, 22, 23, 14, 24, 16, 25, 26, 27, 28, 29, 9, 6, 10, 73] (by decide +kernel) (by decide +kernel)
set_option maxRecDepth 20000 in
theorem gX5_dots_X1_flip : GoodIn wsX5_dots (wsV RX5 82 RX1 yX1_flip wsX1_flip) := goodIn_app (goodIn_of _ (by decide +kernel)) ggX5_dots_X1_flip
set_option maxRecDepth 20000 in
theorem ggX5_dots_X5_become : GoodIn wsX5_dots wsX5_become := goodIn_r _ [33, 34, 2, 1, 35, 36, 37, 38, 39, 40, 41, 42, 43, 44, 45, 46, 47, 48, 49, 50, 51, 52, 22, 23, 14, 24, 16, 11, 12, 13, 15, 53, 54, 55, 56, 57, 58, 59, 60, 61, 62, 63, 64, 65, 66, 67, 68, 69, 70, 71, 72, 74, 75, 76, 77, 73] (by decide +kernel) (by decide +kernel)
set_option maxRecDepth 20000 in
theorem gX5_dots_X5_become : GoodIn wsX5_dots (wsV RX5 77 RX5 yX5_become wsX5_become) := goodIn_app (goodIn_of _ (by decide +kernel)) ggX5_dots_X5_become
theorem dX5_dots_0 : decode cX5_dots 0 = .ok (.iload_n 1, 1) := by decide +kernel
theorem dX5_dots_1 : decode cX5_dots 1 = .ok (.invokestatic 58, 3) := by decide +kernel
theorem dX5_dots_4 : decode cX5_dots 4 = .ok (.ifCond .eq 13, 3) := by decide +kernel
theorem dX5_dots_7 : decode cX5_dots 7 = .ok (.iload_n 3, 1) := by decide +kernel
theorem dX5_dots_8 : decode cX5_dots 8 = .ok (.sipush 256, 3) := by decide +kernel
theorem dX5_dots_11 : decode cX5_dots 11 = .ok (.invokestatic 66, 3) := by decide +kernel
theorem dX5_dots_14 : decode cX5_dots 14 = .ok (.ifCond .ne 6, 3) := by decide +kernel
theorem dX5_dots_17 : decode cX5_dots 17 = .ok (.bipush (-2), 2) := by decide +kernel
theorem dX5_dots_19 : decode cX5_dots 19 = .ok (.ireturn, 1) := by decide +kernel
theorem dX5_dots_20 : decode cX5_dots 20 = .ok (.aload_n 0, 1) := by decide +kernel
theorem dX5_dots_21 : decode cX5_dots 21 = .ok (.getfield 29, 3) := by decide +kernel
theorem dX5_dots_24 : decode cX5_dots 24 = .ok (.aload_n 0, 1) := by decide +kernel
theorem dX5_dots_25 : decode cX5_dots 25 = .ok (.getfield 11, 3) := by decide +kernel
theorem dX5_dots_28 : decode cX5_dots 28 = .ok (.iload_n 1, 1) := by decide +kernel
theorem dX5_dots_29 : decode cX5_dots 29 = .ok (.aaload, 1) := by decide +kernel
theorem dX5_dots_30 : decode cX5_dots 30 = .ok (.invokevirtual 69, 3) := by decide +kernel
theorem dX5_dots_33 : decode cX5_dots 33 = .ok (.iload_n 2, 1) := by decide +kernel
theorem dX5_dots_34 : decode cX5_dots 34 = .ok (.istore 4, 2) := by decide +kernel
theorem dX5_dots_36 : decode cX5_dots 36 = .ok (.iconst 0, 1) := by decide +kernel
theorem dX5_dots_37 : decode cX5_dots 37 = .ok (.istore 5, 2) := by decide +kernel
theorem dX5_dots_39 : decode cX5_dots 39 = .ok (.iload 5, 2) := by decide +kernel
theorem dX5_dots_41 : decode cX5_dots 41 = .ok (.iload_n 3, 1) := by decide +kernel
theorem dX5_dots_42 : decode cX5_dots 42 = .ok (.if_icmp .ge 48, 3) := by decide +kernel
theorem dX5_dots_45 : decode cX5_dots 45 = .ok (.ldc 81, 2) := by decide +kernel
theorem dX5_dots_47 : decode cX5_dots 47 = .ok (.iload 4, 2) := by decide +kernel
theorem dX5_dots_49 : decode cX5_dots 49 = .ok (.imul, 1) := by decide +kernel
theorem dX5_dots_50 : decode cX5_dots 50 = .ok (.sipush 12345, 3) := by decide +kernel
theorem dX5_dots_53 : decode cX5_dots 53 = .ok (.iadd, 1) := by decide +kernel
theorem dX5_dots_54 : decode cX5_dots 54 = .ok (.istore 4, 2) := by decide +kernel
theorem dX5_dots_56 : decode cX5_dots 56 = .ok (.iload 4, 2) := by decide +kernel
theorem dX5_dots_58 : decode cX5_dots 58 = .ok (.bipush 16, 2) := by decide +kernel
theorem dX5_dots_60 : decode cX5_dots 60 = .ok (.iushr, 1) := by decide +kernel
theorem dX5_dots_61 : decode cX5_dots 61 = .ok (.sipush 256, 3) := by decide +kernel
theorem dX5_dots_64 : decode cX5_dots 64 = .ok (.irem, 1) := by decide +kernel
theorem dX5_dots_65 : decode cX5_dots 65 = .ok (.istore 6, 2) := by decide +kernel
theorem dX5_dots_67 : decode cX5_dots 67 = .ok (.aload_n 0, 1) := by decide +kernel
theorem dX5_dots_68 : decode cX5_dots 68 = .ok (.getfield 29, 3) := by decide +kernel
theorem dX5_dots_71 : decode cX5_dots 71 = .ok (.iload 6, 2) := by decide +kernel
theorem dX5_dots_73 : decode cX5_dots 73 = .ok (.bipush 16, 2) := by decide +kernel
theorem dX5_dots_75 : decode cX5_dots 75 = .ok (.irem, 1) := by decide +kernel
theorem dX5_dots_76 : decode cX5_dots 76 = .ok (.iload 6, 2) := by decide +kernel
theorem dX5_dots_78 : decode cX5_dots 78 = .ok (.bipush 16, 2) := by decide +kernel
theorem dX5_dots_80 : decode cX5_dots 80 = .ok (.idiv, 1) := by decide +kernel
theorem dX5_dots_81 : decode cX5_dots 81 = .ok (.invokevirtual 82, 3) := by decide +kernel
theorem dX5_dots_84 : decode cX5_dots 84 = .ok (.iinc 5 1, 3) := by decide +kernel
theorem dX5_dots_87 : decode cX5_dots 87 = .ok (.goto (-48), 3) := by decide +kernel
theorem dX5_dots_90 : decode cX5_dots 90 = .ok (.aload_n 0, 1) := by decide +kernel
theorem dX5_dots_91 : decode cX5_dots 91 = .ok (.iload_n 1, 1) := by decide +kernel
theorem dX5_dots_92 : decode cX5_dots 92 = .ok (.invokevirtual 77, 3) := by decide +kernel
theorem dX5_dots_95 : decode cX5_dots 95 = .ok (.ireturn, 1) := by decide +kernel
set_option maxRecDepth 20000 in
theorem ggX5_join_X5_within : GoodIn wsX5_join wsX5_within := goodIn_r _ [6] (by decide +kernel) (by decide +kernel)
set_option maxRecDepth 20000 in
theorem gX5_join_X5_within : GoodIn wsX5_join (va_wsS RX5 66 yX5_within wsX5_within) := goodIn_app (goodIn_of _ (by decide +kernel)) ggX5_join_X5_within
set_option maxRecDepth 20000 in
theorem ggX5_join_X5_isMask : GoodIn wsX5_join wsX5_isMask := goodIn_r _ [9, 3, 4, 5, 6] (by decide +kernel) (by decide +kernel)
set_option maxRecDepth 20000 in
theorem gX5_join_X5_isMask : GoodIn wsX5_join (va_wsS RX5 58 yX5_isMask wsX5_isMask) := goodIn_app (goodIn_of _ (by decide +kernel)) ggX5_join_X5_isMask
set_option maxRecDepth 20000 in
theorem ggX5_join_X1_row : GoodIn wsX5_join wsX1_row := goodIn_r _ [14, 15, 71] (by decide +kernel) (by decide +kernel)
set_option maxRecDepth 20000 in
theorem gX5_join_X1_row : GoodIn wsX5_join (wsV RX5 86 RX1 yX1_row wsX1_row) := goodIn_app (goodIn_of _ (by decide +kernel)) ggX5_join_X1_row
set_option maxRecDepth 20000 in
theorem ggX5_join_X5_joinedRow : GoodIn wsX5_join wsX5_joinedRow := goodIn_r _ [18] (by decide +kernel) (by decide +kernel)
set_option maxRecDepth 20000 in
theorem gX5_join_X5_joinedRow : GoodIn wsX5_join (va_wsS RX5 89 yX5_joinedRow wsX5_joinedRow) := goodIn_app (goodIn_of _ (by decide +kernel)) ggX5_join_X5_joinedRow
set_option maxRecDepth 20000 in
theorem ggX5_join_X1_setRow : GoodIn wsX5_join wsX1_setRow := goodIn_r _ [22, 15, 23, 4, 5, 6, 71] (by decide +kernel) (by decide +kernel)
set_option maxRecDepth 20000 in
theorem gX5_join_X1_setRow : GoodIn wsX5_join (wsV RX5 93 RX1 yX1_setRow wsX1_setRow) := goodIn_app (goodIn_of _ (by decide +kernel)) ggX5_join_X1_setRow
set_option maxRecDepth 20000 in
theorem ggX5_join_X5_become : GoodIn wsX5_join wsX5_become := goodIn_r _ [27, 28, 2, 1, 29, 30, 31, 32, 33, 34, 35, 36, 37, 38, 39, 40, 41, 42, 43, 44, 45, 46, 11, 12, 13, 14, 15, 47, 48, 49, 50, 51, 52, 53, 54, 55, 56, 57, 58, 59, 60, 61, 62, 63, 64, 65, 66, 67, 68, 69, 70, 72, 73, 74, 75, 71] (by decide +kernel) (by decide +kernel)
set_option maxRecDepth 20000 in
theorem gX5_join_X5_become : GoodIn wsX5_join (wsV RX5 77 RX5 yX5_become wsX5_become) := goodIn_app (goodIn_of _ (by decide +kernel)) ggX5_join_X5_become
theorem dX5_join_0 : decode cX5_join 0 = .ok (.iload_n 1, 1) := by decide +kernel
theorem dX5_join_1 : decode cX5_join 1 = .ok (.iconst 4, 1) := by decide +kernel
theorem dX5_join_2 : decode cX5_join 2 = .ok (.invokestatic 66, 3) := by decide +kernel
theorem dX5_join_5 : decode cX5_join 5 = .ok (.ifCond .eq 25, 3) := by decide +kernel
theorem dX5_join_8 : decode cX5_join 8 = .ok (.iload_n 2, 1) := by decide +kernel
theorem dX5_join_9 : decode cX5_join 9 = .ok (.invokestatic 58, 3) := by decide +kernel
theorem dX5_join_12 : decode cX5_join 12 = .ok (.ifCond .eq 18, 3) := by decide +kernel
theorem dX5_join_15 : decode cX5_join 15 = .ok (.iload_n 3, 1) := by decide +kernel
theorem dX5_join_16 : decode cX5_join 16 = .ok (.invokestatic 58, 3) := by decide +kernel
theorem dX5_join_19 : decode cX5_join 19 = .ok (.ifCond .eq 11, 3) := by decide +kernel
theorem dX5_join_22 : decode cX5_join 22 = .ok (.iload 4, 2) := by decide +kernel
theorem dX5_join_24 : decode cX5_join 24 = .ok (.invokestatic 58, 3) := by decide +kernel
theorem dX5_join_27 : decode cX5_join 27 = .ok (.ifCond .ne 6, 3) := by decide +kernel
theorem dX5_join_30 : decode cX5_join 30 = .ok (.bipush (-2), 2) := by decide +kernel
theorem dX5_join_32 : decode cX5_join 32 = .ok (.ireturn, 1) := by decide +kernel
theorem dX5_join_33 : decode cX5_join 33 = .ok (.iconst 0, 1) := by decide +kernel
theorem dX5_join_34 : decode cX5_join 34 = .ok (.istore 5, 2) := by decide +kernel
theorem dX5_join_36 : decode cX5_join 36 = .ok (.iload 5, 2) := by decide +kernel
theorem dX5_join_38 : decode cX5_join 38 = .ok (.bipush 16, 2) := by decide +kernel
theorem dX5_join_40 : decode cX5_join 40 = .ok (.if_icmp .ge 44, 3) := by decide +kernel
theorem dX5_join_43 : decode cX5_join 43 = .ok (.aload_n 0, 1) := by decide +kernel
theorem dX5_join_44 : decode cX5_join 44 = .ok (.getfield 29, 3) := by decide +kernel
theorem dX5_join_47 : decode cX5_join 47 = .ok (.iload 5, 2) := by decide +kernel
theorem dX5_join_49 : decode cX5_join 49 = .ok (.iload_n 1, 1) := by decide +kernel
theorem dX5_join_50 : decode cX5_join 50 = .ok (.aload_n 0, 1) := by decide +kernel
theorem dX5_join_51 : decode cX5_join 51 = .ok (.getfield 11, 3) := by decide +kernel
theorem dX5_join_54 : decode cX5_join 54 = .ok (.iload_n 2, 1) := by decide +kernel
theorem dX5_join_55 : decode cX5_join 55 = .ok (.aaload, 1) := by decide +kernel
theorem dX5_join_56 : decode cX5_join 56 = .ok (.iload 5, 2) := by decide +kernel
theorem dX5_join_58 : decode cX5_join 58 = .ok (.invokevirtual 86, 3) := by decide +kernel
theorem dX5_join_61 : decode cX5_join 61 = .ok (.aload_n 0, 1) := by decide +kernel
theorem dX5_join_62 : decode cX5_join 62 = .ok (.getfield 11, 3) := by decide +kernel
theorem dX5_join_65 : decode cX5_join 65 = .ok (.iload_n 3, 1) := by decide +kernel
theorem dX5_join_66 : decode cX5_join 66 = .ok (.aaload, 1) := by decide +kernel
theorem dX5_join_67 : decode cX5_join 67 = .ok (.iload 5, 2) := by decide +kernel
theorem dX5_join_69 : decode cX5_join 69 = .ok (.invokevirtual 86, 3) := by decide +kernel
theorem dX5_join_72 : decode cX5_join 72 = .ok (.invokestatic 89, 3) := by decide +kernel
theorem dX5_join_75 : decode cX5_join 75 = .ok (.invokevirtual 93, 3) := by decide +kernel
theorem dX5_join_78 : decode cX5_join 78 = .ok (.iinc 5 1, 3) := by decide +kernel
theorem dX5_join_81 : decode cX5_join 81 = .ok (.goto (-45), 3) := by decide +kernel
theorem dX5_join_84 : decode cX5_join 84 = .ok (.aload_n 0, 1) := by decide +kernel
theorem dX5_join_85 : decode cX5_join 85 = .ok (.iload 4, 2) := by decide +kernel
theorem dX5_join_87 : decode cX5_join 87 = .ok (.invokevirtual 77, 3) := by decide +kernel
theorem dX5_join_90 : decode cX5_join 90 = .ok (.ireturn, 1) := by decide +kernel
theorem dX5_joinedRow_0 : decode cX5_joinedRow 0 = .ok (.iload_n 0, 1) := by decide +kernel
theorem dX5_joinedRow_1 : decode cX5_joinedRow 1 = .ok (.tableswitch 41 0 2 #[27, 31, 35], 27) := by decide +kernel
theorem dX5_joinedRow_28 : decode cX5_joinedRow 28 = .ok (.iload_n 1, 1) := by decide +kernel
theorem dX5_joinedRow_29 : decode cX5_joinedRow 29 = .ok (.iload_n 2, 1) := by decide +kernel
theorem dX5_joinedRow_30 : decode cX5_joinedRow 30 = .ok (.ior, 1) := by decide +kernel
theorem dX5_joinedRow_31 : decode cX5_joinedRow 31 = .ok (.ireturn, 1) := by decide +kernel
theorem dX5_joinedRow_32 : decode cX5_joinedRow 32 = .ok (.iload_n 1, 1) := by decide +kernel
theorem dX5_joinedRow_33 : decode cX5_joinedRow 33 = .ok (.iload_n 2, 1) := by decide +kernel
theorem dX5_joinedRow_34 : decode cX5_joinedRow 34 = .ok (.iand, 1) := by decide +kernel
theorem dX5_joinedRow_35 : decode cX5_joinedRow 35 = .ok (.ireturn, 1) := by decide +kernel
theorem dX5_joinedRow_36 : decode cX5_joinedRow 36 = .ok (.iload_n 1, 1) := by decide +kernel
theorem dX5_joinedRow_37 : decode cX5_joinedRow 37 = .ok (.iload_n 2, 1) := by decide +kernel
theorem dX5_joinedRow_38 : decode cX5_joinedRow 38 = .ok (.iconst (-1), 1) := by decide +kernel
theorem dX5_joinedRow_39 : decode cX5_joinedRow 39 = .ok (.ixor, 1) := by decide +kernel
theorem dX5_joinedRow_40 : decode cX5_joinedRow 40 = .ok (.iand, 1) := by decide +kernel
theorem dX5_joinedRow_41 : decode cX5_joinedRow 41 = .ok (.ireturn, 1) := by decide +kernel
theorem dX5_joinedRow_42 : decode cX5_joinedRow 42 = .ok (.iload_n 1, 1) := by decide +kernel
theorem dX5_joinedRow_43 : decode cX5_joinedRow 43 = .ok (.iload_n 2, 1) := by decide +kernel
theorem dX5_joinedRow_44 : decode cX5_joinedRow 44 = .ok (.ixor, 1) := by decide +kernel
theorem dX5_joinedRow_45 : decode cX5_joinedRow 45 = .ok (.ireturn, 1) := by decide +kernel
set_option maxRecDepth 20000 in
theorem ggX5_over_X5_isMask : GoodIn wsX5_over wsX5_isMask := goodIn_r _ [6, 7, 8, 5, 9] (by decide +kernel) (by decide +kernel)
set_option maxRecDepth 20000 in
theorem gX5_over_X5_isMask : GoodIn wsX5_over (va_wsS RX5 58 yX5_isMask wsX5_isMask) := goodIn_app (goodIn_of _ (by decide +kernel)) ggX5_over_X5_isMask
set_option maxRecDepth 20000 in
theorem ggX5_over_X1_takeTurnedOver : GoodIn wsX5_over wsX1_takeTurnedOver := goodIn_r _ [14, 15, 16, 67] (by decide +kernel) (by decide +kernel)
set_option maxRecDepth 20000 in
theorem gX5_over_X1_takeTurnedOver : GoodIn wsX5_over (wsV RX5 96 RX1 yX1_takeTurnedOver wsX1_takeTurnedOver) := goodIn_app (goodIn_of _ (by decide +kernel)) ggX5_over_X1_takeTurnedOver
set_option maxRecDepth 20000 in
theorem ggX5_over_X5_become : GoodIn wsX5_over wsX5_become := goodIn_r _ [20, 21, 2, 1, 22, 23, 24, 25, 26, 27, 28, 29, 30, 31, 32, 33, 34, 35, 36, 37, 38, 39, 40, 41, 13, 42, 15, 43, 44, 45, 46, 47, 48, 49, 50, 51, 52, 53, 54, 55, 56, 57, 58, 59, 60, 61, 62, 63, 64, 65, 66, 68, 69, 70, 71, 67] (by decide +kernel) (by decide +kernel)
set_option maxRecDepth 20000 in
theorem gX5_over_X5_become : GoodIn wsX5_over (wsV RX5 77 RX5 yX5_become wsX5_become) := goodIn_app (goodIn_of _ (by decide +kernel)) ggX5_over_X5_become
theorem dX5_over_0 : decode cX5_over 0 = .ok (.iload_n 1, 1) := by decide +kernel
theorem dX5_over_1 : decode cX5_over 1 = .ok (.invokestatic 58, 3) := by decide +kernel
theorem dX5_over_4 : decode cX5_over 4 = .ok (.ifCond .eq 10, 3) := by decide +kernel
theorem dX5_over_7 : decode cX5_over 7 = .ok (.iload_n 2, 1) := by decide +kernel
theorem dX5_over_8 : decode cX5_over 8 = .ok (.invokestatic 58, 3) := by decide +kernel
theorem dX5_over_11 : decode cX5_over 11 = .ok (.ifCond .ne 6, 3) := by decide +kernel
theorem dX5_over_14 : decode cX5_over 14 = .ok (.bipush (-2), 2) := by decide +kernel
theorem dX5_over_16 : decode cX5_over 16 = .ok (.ireturn, 1) := by decide +kernel
theorem dX5_over_17 : decode cX5_over 17 = .ok (.aload_n 0, 1) := by decide +kernel
theorem dX5_over_18 : decode cX5_over 18 = .ok (.getfield 29, 3) := by decide +kernel
theorem dX5_over_21 : decode cX5_over 21 = .ok (.aload_n 0, 1) := by decide +kernel
theorem dX5_over_22 : decode cX5_over 22 = .ok (.getfield 11, 3) := by decide +kernel
theorem dX5_over_25 : decode cX5_over 25 = .ok (.iload_n 1, 1) := by decide +kernel
theorem dX5_over_26 : decode cX5_over 26 = .ok (.aaload, 1) := by decide +kernel
theorem dX5_over_27 : decode cX5_over 27 = .ok (.invokevirtual 96, 3) := by decide +kernel
theorem dX5_over_30 : decode cX5_over 30 = .ok (.aload_n 0, 1) := by decide +kernel
theorem dX5_over_31 : decode cX5_over 31 = .ok (.iload_n 2, 1) := by decide +kernel
theorem dX5_over_32 : decode cX5_over 32 = .ok (.invokevirtual 77, 3) := by decide +kernel
theorem dX5_over_35 : decode cX5_over 35 = .ok (.ireturn, 1) := by decide +kernel
set_option maxRecDepth 20000 in
theorem ggX5_move_X5_isMask : GoodIn wsX5_move wsX5_isMask := goodIn_r _ [6, 7, 8, 5, 9] (by decide +kernel) (by decide +kernel)
set_option maxRecDepth 20000 in
theorem gX5_move_X5_isMask : GoodIn wsX5_move (va_wsS RX5 58 yX5_isMask wsX5_isMask) := goodIn_app (goodIn_of _ (by decide +kernel)) ggX5_move_X5_isMask
set_option maxRecDepth 20000 in
theorem ggX5_move_X5_isMove : GoodIn wsX5_move wsX5_isMove := goodIn_r _ [12] (by decide +kernel) (by decide +kernel)
set_option maxRecDepth 20000 in
theorem gX5_move_X5_isMove : GoodIn wsX5_move (va_wsS RX5 99 yX5_isMove wsX5_isMove) := goodIn_app (goodIn_of _ (by decide +kernel)) ggX5_move_X5_isMove
set_option maxRecDepth 20000 in
theorem ggX5_move_X1_row : GoodIn wsX5_move wsX1_row := goodIn_r _ [17, 18, 71] (by decide +kernel) (by decide +kernel)
set_option maxRecDepth 20000 in
theorem gX5_move_X1_row : GoodIn wsX5_move (wsV RX5 86 RX1 yX1_row wsX1_row) := goodIn_app (goodIn_of _ (by decide +kernel)) ggX5_move_X1_row
set_option maxRecDepth 20000 in
theorem ggX5_move_X1_setRow : GoodIn wsX5_move wsX1_setRow := goodIn_r _ [22, 18, 23, 8, 5, 9, 71] (by decide +kernel) (by decide +kernel)
set_option maxRecDepth 20000 in
theorem gX5_move_X1_setRow : GoodIn wsX5_move (wsV RX5 93 RX1 yX1_setRow wsX1_setRow) := goodIn_app (goodIn_of _ (by decide +kernel)) ggX5_move_X1_setRow
set_option maxRecDepth 20000 in
theorem ggX5_move_X5_become : GoodIn wsX5_move wsX5_become := goodIn_r _ [27, 28, 1, 2, 29, 30, 31, 32, 33, 34, 35, 36, 37, 38, 39, 40, 41, 42, 43, 44, 45, 46, 14, 15, 16, 17, 18, 47, 48, 49, 50, 51, 52, 53, 54, 55, 56, 57, 58, 59, 60, 61, 62, 63, 64, 65, 66, 67, 68, 69, 70, 72, 73, 74, 75, 71] (by decide +kernel) (by decide +kernel)
set_option maxRecDepth 20000 in
theorem gX5_move_X5_become : GoodIn wsX5_move (wsV RX5 77 RX5 yX5_become wsX5_become) := goodIn_app (goodIn_of _ (by decide +kernel)) ggX5_move_X5_become
theorem dX5_move_0 : decode cX5_move 0 = .ok (.iload_n 1, 1) := by decide +kernel
theorem dX5_move_1 : decode cX5_move 1 = .ok (.invokestatic 58, 3) := by decide +kernel
theorem dX5_move_4 : decode cX5_move 4 = .ok (.ifCond .eq 25, 3) := by decide +kernel
theorem dX5_move_7 : decode cX5_move 7 = .ok (.iload_n 2, 1) := by decide +kernel
theorem dX5_move_8 : decode cX5_move 8 = .ok (.invokestatic 99, 3) := by decide +kernel
theorem dX5_move_11 : decode cX5_move 11 = .ok (.ifCond .eq 18, 3) := by decide +kernel
theorem dX5_move_14 : decode cX5_move 14 = .ok (.iload_n 3, 1) := by decide +kernel
theorem dX5_move_15 : decode cX5_move 15 = .ok (.invokestatic 99, 3) := by decide +kernel
theorem dX5_move_18 : decode cX5_move 18 = .ok (.ifCond .eq 11, 3) := by decide +kernel
theorem dX5_move_21 : decode cX5_move 21 = .ok (.iload 4, 2) := by decide +kernel
theorem dX5_move_23 : decode cX5_move 23 = .ok (.invokestatic 58, 3) := by decide +kernel
theorem dX5_move_26 : decode cX5_move 26 = .ok (.ifCond .ne 6, 3) := by decide +kernel
theorem dX5_move_29 : decode cX5_move 29 = .ok (.bipush (-2), 2) := by decide +kernel
theorem dX5_move_31 : decode cX5_move 31 = .ok (.ireturn, 1) := by decide +kernel
theorem dX5_move_32 : decode cX5_move 32 = .ok (.iconst 0, 1) := by decide +kernel
theorem dX5_move_33 : decode cX5_move 33 = .ok (.istore 5, 2) := by decide +kernel
theorem dX5_move_35 : decode cX5_move 35 = .ok (.iload 5, 2) := by decide +kernel
theorem dX5_move_37 : decode cX5_move 37 = .ok (.bipush 16, 2) := by decide +kernel
theorem dX5_move_39 : decode cX5_move 39 = .ok (.if_icmp .ge 49, 3) := by decide +kernel
theorem dX5_move_42 : decode cX5_move 42 = .ok (.aload_n 0, 1) := by decide +kernel
theorem dX5_move_43 : decode cX5_move 43 = .ok (.getfield 11, 3) := by decide +kernel
theorem dX5_move_46 : decode cX5_move 46 = .ok (.iload_n 1, 1) := by decide +kernel
theorem dX5_move_47 : decode cX5_move 47 = .ok (.aaload, 1) := by decide +kernel
theorem dX5_move_48 : decode cX5_move 48 = .ok (.iload 5, 2) := by decide +kernel
theorem dX5_move_50 : decode cX5_move 50 = .ok (.iload_n 3, 1) := by decide +kernel
theorem dX5_move_51 : decode cX5_move 51 = .ok (.isub, 1) := by decide +kernel
theorem dX5_move_52 : decode cX5_move 52 = .ok (.invokevirtual 86, 3) := by decide +kernel
theorem dX5_move_55 : decode cX5_move 55 = .ok (.istore 6, 2) := by decide +kernel
theorem dX5_move_57 : decode cX5_move 57 = .ok (.aload_n 0, 1) := by decide +kernel
theorem dX5_move_58 : decode cX5_move 58 = .ok (.getfield 29, 3) := by decide +kernel
theorem dX5_move_61 : decode cX5_move 61 = .ok (.iload 5, 2) := by decide +kernel
theorem dX5_move_63 : decode cX5_move 63 = .ok (.iload_n 2, 1) := by decide +kernel
theorem dX5_move_64 : decode cX5_move 64 = .ok (.ifCond .ge 11, 3) := by decide +kernel
theorem dX5_move_67 : decode cX5_move 67 = .ok (.iload 6, 2) := by decide +kernel
theorem dX5_move_69 : decode cX5_move 69 = .ok (.iload_n 2, 1) := by decide +kernel
theorem dX5_move_70 : decode cX5_move 70 = .ok (.ineg, 1) := by decide +kernel
theorem dX5_move_71 : decode cX5_move 71 = .ok (.iushr, 1) := by decide +kernel
theorem dX5_move_72 : decode cX5_move 72 = .ok (.goto 7, 3) := by decide +kernel
theorem dX5_move_75 : decode cX5_move 75 = .ok (.iload 6, 2) := by decide +kernel
theorem dX5_move_77 : decode cX5_move 77 = .ok (.iload_n 2, 1) := by decide +kernel
theorem dX5_move_78 : decode cX5_move 78 = .ok (.ishl, 1) := by decide +kernel
theorem dX5_move_79 : decode cX5_move 79 = .ok (.invokevirtual 93, 3) := by decide +kernel
theorem dX5_move_82 : decode cX5_move 82 = .ok (.iinc 5 1, 3) := by decide +kernel
theorem dX5_move_85 : decode cX5_move 85 = .ok (.goto (-50), 3) := by decide +kernel
theorem dX5_move_88 : decode cX5_move 88 = .ok (.aload_n 0, 1) := by decide +kernel
theorem dX5_move_89 : decode cX5_move 89 = .ok (.iload 4, 2) := by decide +kernel
theorem dX5_move_91 : decode cX5_move 91 = .ok (.invokevirtual 77, 3) := by decide +kernel
theorem dX5_move_94 : decode cX5_move 94 = .ok (.ireturn, 1) := by decide +kernel
set_option maxRecDepth 20000 in
theorem ggX5_turn_X5_isMask : GoodIn wsX5_turn wsX5_isMask := goodIn_r _ [7, 8, 9, 6, 10] (by decide +kernel) (by decide +kernel)
set_option maxRecDepth 20000 in
theorem gX5_turn_X5_isMask : GoodIn wsX5_turn (va_wsS RX5 58 yX5_isMask wsX5_isMask) := goodIn_app (goodIn_of _ (by decide +kernel)) ggX5_turn_X5_isMask
set_option maxRecDepth 20000 in
theorem ggX5_turn_X5_within : GoodIn wsX5_turn wsX5_within := goodIn_r _ [10] (by decide +kernel) (by decide +kernel)
set_option maxRecDepth 20000 in
theorem gX5_turn_X5_within : GoodIn wsX5_turn (va_wsS RX5 66 yX5_within wsX5_within) := goodIn_app (goodIn_of _ (by decide +kernel)) ggX5_turn_X5_within
set_option maxRecDepth 20000 in
theorem ggX5_turn_X1_take : GoodIn wsX5_turn wsX1_take := goodIn_r _ [15, 16, 71] (by decide +kernel) (by decide +kernel)
set_option maxRecDepth 20000 in
theorem gX5_turn_X1_take : GoodIn wsX5_turn (wsV RX5 69 RX1 yX1_take wsX1_take) := goodIn_app (goodIn_of _ (by decide +kernel)) ggX5_turn_X1_take
set_option maxRecDepth 20000 in
theorem ggX5_turn_X1_takeTurnedRight : GoodIn wsX5_turn wsX1_takeTurnedRight := goodIn_r _ [20, 16, 21, 22, 23, 14, 24, 71] (by decide +kernel) (by decide +kernel)
set_option maxRecDepth 20000 in
theorem gX5_turn_X1_takeTurnedRight : GoodIn wsX5_turn (wsV RX5 102 RX1 yX1_takeTurnedRight wsX1_takeTurnedRight) := goodIn_app (goodIn_of _ (by decide +kernel)) ggX5_turn_X1_takeTurnedRight
set_option maxRecDepth 20000 in
theorem ggX5_turn_X5_become : GoodIn wsX5_turn wsX5_become := goodIn_r _ [28, 29, 2, 1, 30, 31, 32, 33, 34, 35, 36, 37, 38, 39, 40, 41, 42, 43, 44, 45, 46, 47, 48, 49, 14, 50, 16, 11, 12, 13, 15, 51, 52, 53, 54, 55, 56, 57, 58, 59, 60, 61, 62, 63, 64, 65, 66, 67, 68, 69, 70, 72, 73, 74, 75, 71] (by decide +kernel) (by decide +kernel)
set_option maxRecDepth 20000 in
theorem gX5_turn_X5_become : GoodIn wsX5_turn (wsV RX5 77 RX5 yX5_become wsX5_become) := goodIn_app (goodIn_of _ (by decide +kernel)) ggX5_turn_X5_become
theorem dX5_turn_0 : decode cX5_turn 0 = .ok (.iload_n 1, 1) := by decide +kernel
theorem dX5_turn_1 : decode cX5_turn 1 = .ok (.invokestatic 58, 3) := by decide +kernel
theorem dX5_turn_4 : decode cX5_turn 4 = .ok (.ifCond .eq 18, 3) := by decide +kernel
theorem dX5_turn_7 : decode cX5_turn 7 = .ok (.iload_n 2, 1) := by decide +kernel
theorem dX5_turn_8 : decode cX5_turn 8 = .ok (.iconst 4, 1) := by decide +kernel
theorem dX5_turn_9 : decode cX5_turn 9 = .ok (.invokestatic 66, 3) := by decide +kernel
theorem dX5_turn_12 : decode cX5_turn 12 = .ok (.ifCond .eq 10, 3) := by decide +kernel
theorem dX5_turn_15 : decode cX5_turn 15 = .ok (.iload_n 3, 1) := by decide +kernel
theorem dX5_turn_16 : decode cX5_turn 16 = .ok (.invokestatic 58, 3) := by decide +kernel
theorem dX5_turn_19 : decode cX5_turn 19 = .ok (.ifCond .ne 6, 3) := by decide +kernel
theorem dX5_turn_22 : decode cX5_turn 22 = .ok (.bipush (-2), 2) := by decide +kernel
theorem dX5_turn_24 : decode cX5_turn 24 = .ok (.ireturn, 1) := by decide +kernel
theorem dX5_turn_25 : decode cX5_turn 25 = .ok (.aload_n 0, 1) := by decide +kernel
theorem dX5_turn_26 : decode cX5_turn 26 = .ok (.getfield 29, 3) := by decide +kernel
theorem dX5_turn_29 : decode cX5_turn 29 = .ok (.aload_n 0, 1) := by decide +kernel
theorem dX5_turn_30 : decode cX5_turn 30 = .ok (.getfield 11, 3) := by decide +kernel
theorem dX5_turn_33 : decode cX5_turn 33 = .ok (.iload_n 1, 1) := by decide +kernel
theorem dX5_turn_34 : decode cX5_turn 34 = .ok (.aaload, 1) := by decide +kernel
theorem dX5_turn_35 : decode cX5_turn 35 = .ok (.invokevirtual 69, 3) := by decide +kernel
theorem dX5_turn_38 : decode cX5_turn 38 = .ok (.iconst 0, 1) := by decide +kernel
theorem dX5_turn_39 : decode cX5_turn 39 = .ok (.istore 4, 2) := by decide +kernel
theorem dX5_turn_41 : decode cX5_turn 41 = .ok (.iload 4, 2) := by decide +kernel
theorem dX5_turn_43 : decode cX5_turn 43 = .ok (.iload_n 2, 1) := by decide +kernel
theorem dX5_turn_44 : decode cX5_turn 44 = .ok (.if_icmp .ge 31, 3) := by decide +kernel
theorem dX5_turn_47 : decode cX5_turn 47 = .ok (.aload_n 0, 1) := by decide +kernel
theorem dX5_turn_48 : decode cX5_turn 48 = .ok (.getfield 33, 3) := by decide +kernel
theorem dX5_turn_51 : decode cX5_turn 51 = .ok (.aload_n 0, 1) := by decide +kernel
theorem dX5_turn_52 : decode cX5_turn 52 = .ok (.getfield 29, 3) := by decide +kernel
theorem dX5_turn_55 : decode cX5_turn 55 = .ok (.invokevirtual 102, 3) := by decide +kernel
theorem dX5_turn_58 : decode cX5_turn 58 = .ok (.aload_n 0, 1) := by decide +kernel
theorem dX5_turn_59 : decode cX5_turn 59 = .ok (.getfield 29, 3) := by decide +kernel
theorem dX5_turn_62 : decode cX5_turn 62 = .ok (.aload_n 0, 1) := by decide +kernel
theorem dX5_turn_63 : decode cX5_turn 63 = .ok (.getfield 33, 3) := by decide +kernel
theorem dX5_turn_66 : decode cX5_turn 66 = .ok (.invokevirtual 69, 3) := by decide +kernel
theorem dX5_turn_69 : decode cX5_turn 69 = .ok (.iinc 4 1, 3) := by decide +kernel
theorem dX5_turn_72 : decode cX5_turn 72 = .ok (.goto (-31), 3) := by decide +kernel
theorem dX5_turn_75 : decode cX5_turn 75 = .ok (.aload_n 0, 1) := by decide +kernel
theorem dX5_turn_76 : decode cX5_turn 76 = .ok (.iload_n 3, 1) := by decide +kernel
theorem dX5_turn_77 : decode cX5_turn 77 = .ok (.invokevirtual 77, 3) := by decide +kernel
theorem dX5_turn_80 : decode cX5_turn 80 = .ok (.ireturn, 1) := by decide +kernel
set_option maxRecDepth 20000 in
theorem ggX5_band_X5_isMask : GoodIn wsX5_band wsX5_isMask := goodIn_r _ [7, 8, 9, 6, 10] (by decide +kernel) (by decide +kernel)
set_option maxRecDepth 20000 in
theorem gX5_band_X5_isMask : GoodIn wsX5_band (va_wsS RX5 58 yX5_isMask wsX5_isMask) := goodIn_app (goodIn_of _ (by decide +kernel)) ggX5_band_X5_isMask
set_option maxRecDepth 20000 in
theorem ggX5_band_X5_within : GoodIn wsX5_band wsX5_within := goodIn_r _ [10] (by decide +kernel) (by decide +kernel)
set_option maxRecDepth 20000 in
theorem gX5_band_X5_within : GoodIn wsX5_band (va_wsS RX5 66 yX5_within wsX5_within) := goodIn_app (goodIn_of _ (by decide +kernel)) ggX5_band_X5_within
set_option maxRecDepth 20000 in
theorem ggX5_band_X1_take : GoodIn wsX5_band wsX1_take := goodIn_r _ [15, 16, 73] (by decide +kernel) (by decide +kernel)
set_option maxRecDepth 20000 in
theorem gX5_band_X1_take : GoodIn wsX5_band (wsV RX5 69 RX1 yX1_take wsX1_take) := goodIn_app (goodIn_of _ (by decide +kernel)) ggX5_band_X1_take
set_option maxRecDepth 20000 in
theorem ggX5_band_X1_takeWidened : GoodIn wsX5_band wsX1_takeWidened := goodIn_r _ [20, 16, 21, 22, 23, 14, 24, 25, 26, 27, 28, 29, 73] (by decide +kernel) (by decide +kernel)
set_option maxRecDepth 20000 in
theorem gX5_band_X1_takeWidened : GoodIn wsX5_band (wsV RX5 105 RX1 yX1_takeWidened wsX1_takeWidened) := goodIn_app (goodIn_of _ (by decide +kernel)) ggX5_band_X1_takeWidened
set_option maxRecDepth 20000 in
theorem ggX5_band_X5_become : GoodIn wsX5_band wsX5_become := goodIn_r _ [33, 34, 2, 1, 35, 36, 37, 38, 39, 40, 41, 42, 43, 44, 45, 46, 47, 48, 49, 50, 51, 52, 27, 28, 14, 29, 16, 11, 12, 13, 15, 53, 54, 55, 56, 57, 58, 59, 60, 61, 62, 63, 64, 65, 66, 67, 68, 69, 70, 71, 72, 74, 75, 76, 77, 73] (by decide +kernel) (by decide +kernel)
set_option maxRecDepth 20000 in
theorem gX5_band_X5_become : GoodIn wsX5_band (wsV RX5 77 RX5 yX5_become wsX5_become) := goodIn_app (goodIn_of _ (by decide +kernel)) ggX5_band_X5_become
theorem dX5_band_0 : decode cX5_band 0 = .ok (.iload_n 1, 1) := by decide +kernel
theorem dX5_band_1 : decode cX5_band 1 = .ok (.invokestatic 58, 3) := by decide +kernel
theorem dX5_band_4 : decode cX5_band 4 = .ok (.ifCond .eq 19, 3) := by decide +kernel
theorem dX5_band_7 : decode cX5_band 7 = .ok (.iload_n 2, 1) := by decide +kernel
theorem dX5_band_8 : decode cX5_band 8 = .ok (.bipush 31, 2) := by decide +kernel
theorem dX5_band_10 : decode cX5_band 10 = .ok (.invokestatic 66, 3) := by decide +kernel
theorem dX5_band_13 : decode cX5_band 13 = .ok (.ifCond .eq 10, 3) := by decide +kernel
theorem dX5_band_16 : decode cX5_band 16 = .ok (.iload_n 3, 1) := by decide +kernel
theorem dX5_band_17 : decode cX5_band 17 = .ok (.invokestatic 58, 3) := by decide +kernel
theorem dX5_band_20 : decode cX5_band 20 = .ok (.ifCond .ne 6, 3) := by decide +kernel
theorem dX5_band_23 : decode cX5_band 23 = .ok (.bipush (-2), 2) := by decide +kernel
theorem dX5_band_25 : decode cX5_band 25 = .ok (.ireturn, 1) := by decide +kernel
theorem dX5_band_26 : decode cX5_band 26 = .ok (.aload_n 0, 1) := by decide +kernel
theorem dX5_band_27 : decode cX5_band 27 = .ok (.getfield 29, 3) := by decide +kernel
theorem dX5_band_30 : decode cX5_band 30 = .ok (.aload_n 0, 1) := by decide +kernel
theorem dX5_band_31 : decode cX5_band 31 = .ok (.getfield 11, 3) := by decide +kernel
theorem dX5_band_34 : decode cX5_band 34 = .ok (.iload_n 1, 1) := by decide +kernel
theorem dX5_band_35 : decode cX5_band 35 = .ok (.aaload, 1) := by decide +kernel
theorem dX5_band_36 : decode cX5_band 36 = .ok (.invokevirtual 69, 3) := by decide +kernel
theorem dX5_band_39 : decode cX5_band 39 = .ok (.iconst 0, 1) := by decide +kernel
theorem dX5_band_40 : decode cX5_band 40 = .ok (.istore 4, 2) := by decide +kernel
theorem dX5_band_42 : decode cX5_band 42 = .ok (.iload 4, 2) := by decide +kernel
theorem dX5_band_44 : decode cX5_band 44 = .ok (.iload_n 2, 1) := by decide +kernel
theorem dX5_band_45 : decode cX5_band 45 = .ok (.if_icmp .ge 31, 3) := by decide +kernel
theorem dX5_band_48 : decode cX5_band 48 = .ok (.aload_n 0, 1) := by decide +kernel
theorem dX5_band_49 : decode cX5_band 49 = .ok (.getfield 33, 3) := by decide +kernel
theorem dX5_band_52 : decode cX5_band 52 = .ok (.aload_n 0, 1) := by decide +kernel
theorem dX5_band_53 : decode cX5_band 53 = .ok (.getfield 29, 3) := by decide +kernel
theorem dX5_band_56 : decode cX5_band 56 = .ok (.invokevirtual 105, 3) := by decide +kernel
theorem dX5_band_59 : decode cX5_band 59 = .ok (.aload_n 0, 1) := by decide +kernel
theorem dX5_band_60 : decode cX5_band 60 = .ok (.getfield 29, 3) := by decide +kernel
theorem dX5_band_63 : decode cX5_band 63 = .ok (.aload_n 0, 1) := by decide +kernel
theorem dX5_band_64 : decode cX5_band 64 = .ok (.getfield 33, 3) := by decide +kernel
theorem dX5_band_67 : decode cX5_band 67 = .ok (.invokevirtual 69, 3) := by decide +kernel
theorem dX5_band_70 : decode cX5_band 70 = .ok (.iinc 4 1, 3) := by decide +kernel
theorem dX5_band_73 : decode cX5_band 73 = .ok (.goto (-31), 3) := by decide +kernel
theorem dX5_band_76 : decode cX5_band 76 = .ok (.aload_n 0, 1) := by decide +kernel
theorem dX5_band_77 : decode cX5_band 77 = .ok (.iload_n 3, 1) := by decide +kernel
theorem dX5_band_78 : decode cX5_band 78 = .ok (.invokevirtual 77, 3) := by decide +kernel
theorem dX5_band_81 : decode cX5_band 81 = .ok (.ireturn, 1) := by decide +kernel
set_option maxRecDepth 20000 in
theorem ggX5_pick_X5_isMask : GoodIn wsX5_pick wsX5_isMask := goodIn_r _ [7, 8, 9, 6, 10] (by decide +kernel) (by decide +kernel)
set_option maxRecDepth 20000 in
theorem gX5_pick_X5_isMask : GoodIn wsX5_pick (va_wsS RX5 58 yX5_isMask wsX5_isMask) := goodIn_app (goodIn_of _ (by decide +kernel)) ggX5_pick_X5_isMask
set_option maxRecDepth 20000 in
theorem ggX5_pick_X5_isCell : GoodIn wsX5_pick wsX5_isCell := goodIn_r _ [13, 8, 9, 6, 10] (by decide +kernel) (by decide +kernel)
set_option maxRecDepth 20000 in
theorem gX5_pick_X5_isCell : GoodIn wsX5_pick (va_wsS RX5 62 yX5_isCell wsX5_isCell) := goodIn_app (goodIn_of _ (by decide +kernel)) ggX5_pick_X5_isCell
set_option maxRecDepth 20000 in
theorem ggX5_pick_X2_look : GoodIn wsX5_pick wsX2_look := goodIn_r _ [18, 19, 20, 21, 22, 23, 24, 25, 26, 27, 28, 29, 30, 31, 32, 33, 34, 35, 36, 37, 38, 39, 40, 41, 42, 17, 43, 44, 45, 46, 47, 48, 49, 50, 51, 52, 53, 54, 55, 56, 57, 58, 59, 60, 61, 62, 63, 64, 65, 66, 67, 68, 123, 124, 125, 126, 127, 128] (by decide +kernel) (by decide +kernel)
set_option maxRecDepth 20000 in
theorem gX5_pick_X2_look : GoodIn wsX5_pick (wsV RX5 108 RX2 yX2_look wsX2_look) := goodIn_app (goodIn_of _ (by decide +kernel)) ggX5_pick_X2_look
set_option maxRecDepth 20000 in
theorem ggX5_pick_X2_labelAt : GoodIn wsX5_pick wsX2_labelAt := goodIn_r _ [57, 20, 123, 124, 125, 126, 127] (by decide +kernel) (by decide +kernel)
set_option maxRecDepth 20000 in
theorem gX5_pick_X2_labelAt : GoodIn wsX5_pick (wsV RX5 111 RX2 yX2_labelAt wsX2_labelAt) := goodIn_app (goodIn_of _ (by decide +kernel)) ggX5_pick_X2_labelAt
set_option maxRecDepth 20000 in
theorem ggX5_pick_X2_rowOfPart : GoodIn wsX5_pick wsX2_rowOfPart := goodIn_r _ [73, 54, 55, 56, 17, 57, 20, 123, 124, 125, 126, 127] (by decide +kernel) (by decide +kernel)
set_option maxRecDepth 20000 in
theorem gX5_pick_X2_rowOfPart : GoodIn wsX5_pick (wsV RX5 115 RX2 yX2_rowOfPart wsX2_rowOfPart) := goodIn_app (goodIn_of _ (by decide +kernel)) ggX5_pick_X2_rowOfPart
set_option maxRecDepth 20000 in
theorem ggX5_pick_X1_setRow : GoodIn wsX5_pick wsX1_setRow := goodIn_r _ [77, 27, 78, 9, 6, 10, 128] (by decide +kernel) (by decide +kernel)
set_option maxRecDepth 20000 in
theorem gX5_pick_X1_setRow : GoodIn wsX5_pick (wsV RX5 93 RX1 yX1_setRow wsX1_setRow) := goodIn_app (goodIn_of _ (by decide +kernel)) ggX5_pick_X1_setRow
set_option maxRecDepth 20000 in
theorem ggX5_pick_X5_become : GoodIn wsX5_pick wsX5_become := goodIn_r _ [82, 83, 2, 3, 84, 85, 86, 87, 88, 89, 90, 91, 92, 93, 63, 64, 65, 94, 95, 96, 97, 98, 99, 100, 25, 101, 27, 102, 29, 30, 31, 103, 104, 105, 106, 107, 108, 109, 110, 111, 112, 113, 114, 115, 116, 117, 118, 119, 120, 121, 122, 129, 130, 131, 132, 128] (by decide +kernel) (by decide +kernel)
set_option maxRecDepth 20000 in
theorem gX5_pick_X5_become : GoodIn wsX5_pick (wsV RX5 77 RX5 yX5_become wsX5_become) := goodIn_app (goodIn_of _ (by decide +kernel)) ggX5_pick_X5_become
theorem dX5_pick_0 : decode cX5_pick 0 = .ok (.iload_n 1, 1) := by decide +kernel
theorem dX5_pick_1 : decode cX5_pick 1 = .ok (.invokestatic 58, 3) := by decide +kernel
theorem dX5_pick_4 : decode cX5_pick 4 = .ok (.ifCond .eq 19, 3) := by decide +kernel
theorem dX5_pick_7 : decode cX5_pick 7 = .ok (.iload_n 2, 1) := by decide +kernel
theorem dX5_pick_8 : decode cX5_pick 8 = .ok (.iload_n 3, 1) := by decide +kernel
theorem dX5_pick_9 : decode cX5_pick 9 = .ok (.invokestatic 62, 3) := by decide +kernel
theorem dX5_pick_12 : decode cX5_pick 12 = .ok (.ifCond .eq 11, 3) := by decide +kernel
theorem dX5_pick_15 : decode cX5_pick 15 = .ok (.iload 4, 2) := by decide +kernel
theorem dX5_pick_17 : decode cX5_pick 17 = .ok (.invokestatic 58, 3) := by decide +kernel
theorem dX5_pick_20 : decode cX5_pick 20 = .ok (.ifCond .ne 6, 3) := by decide +kernel
theorem dX5_pick_23 : decode cX5_pick 23 = .ok (.bipush (-2), 2) := by decide +kernel
theorem dX5_pick_25 : decode cX5_pick 25 = .ok (.ireturn, 1) := by decide +kernel
theorem dX5_pick_26 : decode cX5_pick 26 = .ok (.aload_n 0, 1) := by decide +kernel
theorem dX5_pick_27 : decode cX5_pick 27 = .ok (.getfield 39, 3) := by decide +kernel
theorem dX5_pick_30 : decode cX5_pick 30 = .ok (.aload_n 0, 1) := by decide +kernel
theorem dX5_pick_31 : decode cX5_pick 31 = .ok (.getfield 11, 3) := by decide +kernel
theorem dX5_pick_34 : decode cX5_pick 34 = .ok (.iload_n 1, 1) := by decide +kernel
theorem dX5_pick_35 : decode cX5_pick 35 = .ok (.aaload, 1) := by decide +kernel
theorem dX5_pick_36 : decode cX5_pick 36 = .ok (.invokevirtual 108, 3) := by decide +kernel
theorem dX5_pick_39 : decode cX5_pick 39 = .ok (.aload_n 0, 1) := by decide +kernel
theorem dX5_pick_40 : decode cX5_pick 40 = .ok (.getfield 39, 3) := by decide +kernel
theorem dX5_pick_43 : decode cX5_pick 43 = .ok (.iload_n 2, 1) := by decide +kernel
theorem dX5_pick_44 : decode cX5_pick 44 = .ok (.iload_n 3, 1) := by decide +kernel
theorem dX5_pick_45 : decode cX5_pick 45 = .ok (.invokevirtual 111, 3) := by decide +kernel
theorem dX5_pick_48 : decode cX5_pick 48 = .ok (.istore 5, 2) := by decide +kernel
theorem dX5_pick_50 : decode cX5_pick 50 = .ok (.iload 5, 2) := by decide +kernel
theorem dX5_pick_52 : decode cX5_pick 52 = .ok (.iconst (-1), 1) := by decide +kernel
theorem dX5_pick_53 : decode cX5_pick 53 = .ok (.if_icmp .ne 6, 3) := by decide +kernel
theorem dX5_pick_56 : decode cX5_pick 56 = .ok (.bipush (-3), 2) := by decide +kernel
theorem dX5_pick_58 : decode cX5_pick 58 = .ok (.ireturn, 1) := by decide +kernel
theorem dX5_pick_59 : decode cX5_pick 59 = .ok (.iconst 0, 1) := by decide +kernel
theorem dX5_pick_60 : decode cX5_pick 60 = .ok (.istore 6, 2) := by decide +kernel
theorem dX5_pick_62 : decode cX5_pick 62 = .ok (.iload 6, 2) := by decide +kernel
theorem dX5_pick_64 : decode cX5_pick 64 = .ok (.bipush 16, 2) := by decide +kernel
theorem dX5_pick_66 : decode cX5_pick 66 = .ok (.if_icmp .ge 29, 3) := by decide +kernel
theorem dX5_pick_69 : decode cX5_pick 69 = .ok (.aload_n 0, 1) := by decide +kernel
theorem dX5_pick_70 : decode cX5_pick 70 = .ok (.getfield 29, 3) := by decide +kernel
theorem dX5_pick_73 : decode cX5_pick 73 = .ok (.iload 6, 2) := by decide +kernel
theorem dX5_pick_75 : decode cX5_pick 75 = .ok (.aload_n 0, 1) := by decide +kernel
theorem dX5_pick_76 : decode cX5_pick 76 = .ok (.getfield 39, 3) := by decide +kernel
theorem dX5_pick_79 : decode cX5_pick 79 = .ok (.iload 5, 2) := by decide +kernel
theorem dX5_pick_81 : decode cX5_pick 81 = .ok (.iload 6, 2) := by decide +kernel
theorem dX5_pick_83 : decode cX5_pick 83 = .ok (.invokevirtual 115, 3) := by decide +kernel
theorem dX5_pick_86 : decode cX5_pick 86 = .ok (.invokevirtual 93, 3) := by decide +kernel
theorem dX5_pick_89 : decode cX5_pick 89 = .ok (.iinc 6 1, 3) := by decide +kernel
theorem dX5_pick_92 : decode cX5_pick 92 = .ok (.goto (-30), 3) := by decide +kernel
theorem dX5_pick_95 : decode cX5_pick 95 = .ok (.aload_n 0, 1) := by decide +kernel
theorem dX5_pick_96 : decode cX5_pick 96 = .ok (.iload 4, 2) := by decide +kernel
theorem dX5_pick_98 : decode cX5_pick 98 = .ok (.invokevirtual 77, 3) := by decide +kernel
theorem dX5_pick_101 : decode cX5_pick 101 = .ok (.ireturn, 1) := by decide +kernel
set_option maxRecDepth 20000 in
theorem ggX5_read_X5_isMask : GoodIn wsX5_read wsX5_isMask := goodIn_r _ [6, 7, 8, 5, 9] (by decide +kernel) (by decide +kernel)
set_option maxRecDepth 20000 in
theorem gX5_read_X5_isMask : GoodIn wsX5_read (va_wsS RX5 58 yX5_isMask wsX5_isMask) := goodIn_app (goodIn_of _ (by decide +kernel)) ggX5_read_X5_isMask
set_option maxRecDepth 20000 in
theorem ggX5_read_X5_isSheet : GoodIn wsX5_read wsX5_isSheet := goodIn_r _ [12, 7, 8, 5, 9] (by decide +kernel) (by decide +kernel)
set_option maxRecDepth 20000 in
theorem gX5_read_X5_isSheet : GoodIn wsX5_read (va_wsS RX5 118 yX5_isSheet wsX5_isSheet) := goodIn_app (goodIn_of _ (by decide +kernel)) ggX5_read_X5_isSheet
set_option maxRecDepth 20000 in
theorem ggX5_read_X5_found : GoodIn wsX5_read wsX5_found := goodIn_r _ [16, 17, 82, 83, 84, 85, 86, 87, 88, 89, 90] (by decide +kernel) (by decide +kernel)
set_option maxRecDepth 20000 in
theorem gX5_read_X5_found : GoodIn wsX5_read (wsV RX5 125 RX5 yX5_found wsX5_found) := goodIn_app (goodIn_of _ (by decide +kernel)) ggX5_read_X5_found
set_option maxRecDepth 20000 in
theorem ggX5_read_X5_readSquare : GoodIn wsX5_read wsX5_readSquare := goodIn_r _ [20, 21, 22, 23, 24, 25, 26, 27, 8, 5, 9, 28, 29, 30, 31, 32, 33, 34, 35, 36, 37, 38, 39, 40, 41, 42, 18, 19, 91, 92, 93, 94, 95] (by decide +kernel) (by decide +kernel)
set_option maxRecDepth 20000 in
theorem gX5_read_X5_readSquare : GoodIn wsX5_read (va_wsS RX5 128 yX5_readSquare wsX5_readSquare) := goodIn_app (goodIn_of _ (by decide +kernel)) ggX5_read_X5_readSquare
set_option maxRecDepth 20000 in
theorem ggX5_read_X5_become : GoodIn wsX5_read wsX5_become := goodIn_r _ [46, 47, 48, 2, 49, 50, 51, 52, 53, 54, 55, 56, 57, 58, 59, 60, 61, 62, 63, 64, 65, 66, 34, 35, 31, 36, 37, 67, 68, 69, 70, 71, 72, 73, 74, 75, 76, 77, 78, 79, 80, 81, 82, 83, 84, 85, 86, 87, 88, 89, 90, 96, 97, 98, 99, 95] (by decide +kernel) (by decide +kernel)
set_option maxRecDepth 20000 in
theorem gX5_read_X5_become : GoodIn wsX5_read (wsV RX5 77 RX5 yX5_become wsX5_become) := goodIn_app (goodIn_of _ (by decide +kernel)) ggX5_read_X5_become
theorem dX5_read_0 : decode cX5_read 0 = .ok (.iload_n 1, 1) := by decide +kernel
theorem dX5_read_1 : decode cX5_read 1 = .ok (.invokestatic 58, 3) := by decide +kernel
theorem dX5_read_4 : decode cX5_read 4 = .ok (.ifCond .eq 10, 3) := by decide +kernel
theorem dX5_read_7 : decode cX5_read 7 = .ok (.iload_n 2, 1) := by decide +kernel
theorem dX5_read_8 : decode cX5_read 8 = .ok (.invokestatic 118, 3) := by decide +kernel
theorem dX5_read_11 : decode cX5_read 11 = .ok (.ifCond .ne 6, 3) := by decide +kernel
theorem dX5_read_14 : decode cX5_read 14 = .ok (.bipush (-2), 2) := by decide +kernel
theorem dX5_read_16 : decode cX5_read 16 = .ok (.ireturn, 1) := by decide +kernel
theorem dX5_read_17 : decode cX5_read 17 = .ok (.aload_n 0, 1) := by decide +kernel
theorem dX5_read_18 : decode cX5_read 18 = .ok (.getfield 17, 3) := by decide +kernel
theorem dX5_read_21 : decode cX5_read 21 = .ok (.iload_n 2, 1) := by decide +kernel
theorem dX5_read_22 : decode cX5_read 22 = .ok (.aaload, 1) := by decide +kernel
theorem dX5_read_23 : decode cX5_read 23 = .ok (.getfield 121, 3) := by decide +kernel
theorem dX5_read_26 : decode cX5_read 26 = .ok (.ifCond .eq 9, 3) := by decide +kernel
theorem dX5_read_29 : decode cX5_read 29 = .ok (.aload_n 0, 1) := by decide +kernel
theorem dX5_read_30 : decode cX5_read 30 = .ok (.iconst 1, 1) := by decide +kernel
theorem dX5_read_31 : decode cX5_read 31 = .ok (.invokevirtual 125, 3) := by decide +kernel
theorem dX5_read_34 : decode cX5_read 34 = .ok (.ireturn, 1) := by decide +kernel
theorem dX5_read_35 : decode cX5_read 35 = .ok (.aload_n 0, 1) := by decide +kernel
theorem dX5_read_36 : decode cX5_read 36 = .ok (.getfield 17, 3) := by decide +kernel
theorem dX5_read_39 : decode cX5_read 39 = .ok (.iload_n 2, 1) := by decide +kernel
theorem dX5_read_40 : decode cX5_read 40 = .ok (.aaload, 1) := by decide +kernel
theorem dX5_read_41 : decode cX5_read 41 = .ok (.iconst 0, 1) := by decide +kernel
theorem dX5_read_42 : decode cX5_read 42 = .ok (.aload_n 0, 1) := by decide +kernel
theorem dX5_read_43 : decode cX5_read 43 = .ok (.getfield 29, 3) := by decide +kernel
theorem dX5_read_46 : decode cX5_read 46 = .ok (.iconst 0, 1) := by decide +kernel
theorem dX5_read_47 : decode cX5_read 47 = .ok (.iconst 0, 1) := by decide +kernel
theorem dX5_read_48 : decode cX5_read 48 = .ok (.bipush 16, 2) := by decide +kernel
theorem dX5_read_50 : decode cX5_read 50 = .ok (.invokestatic 128, 3) := by decide +kernel
theorem dX5_read_53 : decode cX5_read 53 = .ok (.istore_n 3, 1) := by decide +kernel
theorem dX5_read_54 : decode cX5_read 54 = .ok (.iload_n 3, 1) := by decide +kernel
theorem dX5_read_55 : decode cX5_read 55 = .ok (.iconst (-1), 1) := by decide +kernel
theorem dX5_read_56 : decode cX5_read 56 = .ok (.if_icmp .ne 6, 3) := by decide +kernel
theorem dX5_read_59 : decode cX5_read 59 = .ok (.bipush (-3), 2) := by decide +kernel
theorem dX5_read_61 : decode cX5_read 61 = .ok (.ireturn, 1) := by decide +kernel
theorem dX5_read_62 : decode cX5_read 62 = .ok (.aload_n 0, 1) := by decide +kernel
theorem dX5_read_63 : decode cX5_read 63 = .ok (.iload_n 1, 1) := by decide +kernel
theorem dX5_read_64 : decode cX5_read 64 = .ok (.invokevirtual 77, 3) := by decide +kernel
theorem dX5_read_67 : decode cX5_read 67 = .ok (.pop, 1) := by decide +kernel
theorem dX5_read_68 : decode cX5_read 68 = .ok (.iload_n 3, 1) := by decide +kernel
theorem dX5_read_69 : decode cX5_read 69 = .ok (.ireturn, 1) := by decide +kernel
set_option maxRecDepth 20000 in
theorem ggX5_readSquare_X3_item : GoodIn wsX5_readSquare wsX3_item := goodIn_r _ [5, 6, 7, 8, 9, 10, 28, 29, 30, 31] (by decide +kernel) (by decide +kernel)
set_option maxRecDepth 20000 in
theorem gX5_readSquare_X3_item : GoodIn wsX5_readSquare (wsV RX5 135 RX3 yX3_item wsX3_item) := goodIn_app (goodIn_of _ (by decide +kernel)) ggX5_readSquare_X3_item
set_option maxRecDepth 20000 in
theorem ggX5_readSquare_X1_paint : GoodIn wsX5_readSquare wsX1_paint := goodIn_r _ [15, 16, 17, 18, 14, 19, 20, 21, 22, 23, 24, 25, 8, 9, 10, 32] (by decide +kernel) (by decide +kernel)
set_option maxRecDepth 20000 in
theorem gX5_readSquare_X1_paint : GoodIn wsX5_readSquare (wsV RX5 73 RX1 yX1_paint wsX1_paint) := goodIn_app (goodIn_of _ (by decide +kernel)) ggX5_readSquare_X1_paint
set_option maxRecDepth 20000 in
theorem ggX5_readSquare_X5_readSquare : GoodIn wsX5_readSquare wsX5_readSquare := goodIn_r _ [0, 1, 2, 3, 4, 5, 6, 7, 8, 9, 10, 11, 12, 13, 14, 15, 16, 17, 18, 19, 20, 21, 22, 23, 24, 25, 26, 27, 28, 29, 30, 31, 32] (by decide +kernel) (by decide +kernel)
set_option maxRecDepth 20000 in
theorem gX5_readSquare_X5_readSquare : GoodIn wsX5_readSquare (va_wsS RX5 128 yX5_readSquare wsX5_readSquare) := goodIn_app (goodIn_of _ (by decide +kernel)) ggX5_readSquare_X5_readSquare
theorem dX5_readSquare_0 : decode cX5_readSquare 0 = .ok (.iload_n 1, 1) := by decide +kernel
theorem dX5_readSquare_1 : decode cX5_readSquare 1 = .ok (.aload_n 0, 1) := by decide +kernel
theorem dX5_readSquare_2 : decode cX5_readSquare 2 = .ok (.getfield 132, 3) := by decide +kernel
theorem dX5_readSquare_5 : decode cX5_readSquare 5 = .ok (.if_icmp .lt 5, 3) := by decide +kernel
theorem dX5_readSquare_8 : decode cX5_readSquare 8 = .ok (.iconst (-1), 1) := by decide +kernel
theorem dX5_readSquare_9 : decode cX5_readSquare 9 = .ok (.ireturn, 1) := by decide +kernel
theorem dX5_readSquare_10 : decode cX5_readSquare 10 = .ok (.aload_n 0, 1) := by decide +kernel
theorem dX5_readSquare_11 : decode cX5_readSquare 11 = .ok (.iload_n 1, 1) := by decide +kernel
theorem dX5_readSquare_12 : decode cX5_readSquare 12 = .ok (.invokevirtual 135, 3) := by decide +kernel
theorem dX5_readSquare_15 : decode cX5_readSquare 15 = .ok (.istore 6, 2) := by decide +kernel
theorem dX5_readSquare_17 : decode cX5_readSquare 17 = .ok (.iload 6, 2) := by decide +kernel
theorem dX5_readSquare_19 : decode cX5_readSquare 19 = .ok (.ifCond .eq 9, 3) := by decide +kernel
theorem dX5_readSquare_22 : decode cX5_readSquare 22 = .ok (.iload 6, 2) := by decide +kernel
theorem dX5_readSquare_24 : decode cX5_readSquare 24 = .ok (.iconst 1, 1) := by decide +kernel
theorem dX5_readSquare_25 : decode cX5_readSquare 25 = .ok (.if_icmp .ne 20, 3) := by decide +kernel
theorem dX5_readSquare_28 : decode cX5_readSquare 28 = .ok (.aload_n 2, 1) := by decide +kernel
theorem dX5_readSquare_29 : decode cX5_readSquare 29 = .ok (.iload_n 3, 1) := by decide +kernel
theorem dX5_readSquare_30 : decode cX5_readSquare 30 = .ok (.iload 4, 2) := by decide +kernel
theorem dX5_readSquare_32 : decode cX5_readSquare 32 = .ok (.iload 5, 2) := by decide +kernel
theorem dX5_readSquare_34 : decode cX5_readSquare 34 = .ok (.iload 5, 2) := by decide +kernel
theorem dX5_readSquare_36 : decode cX5_readSquare 36 = .ok (.iload 6, 2) := by decide +kernel
theorem dX5_readSquare_38 : decode cX5_readSquare 38 = .ok (.invokevirtual 73, 3) := by decide +kernel
theorem dX5_readSquare_41 : decode cX5_readSquare 41 = .ok (.iload_n 1, 1) := by decide +kernel
theorem dX5_readSquare_42 : decode cX5_readSquare 42 = .ok (.iconst 1, 1) := by decide +kernel
theorem dX5_readSquare_43 : decode cX5_readSquare 43 = .ok (.iadd, 1) := by decide +kernel
theorem dX5_readSquare_44 : decode cX5_readSquare 44 = .ok (.ireturn, 1) := by decide +kernel
theorem dX5_readSquare_45 : decode cX5_readSquare 45 = .ok (.iload 6, 2) := by decide +kernel
theorem dX5_readSquare_47 : decode cX5_readSquare 47 = .ok (.iconst 2, 1) := by decide +kernel
theorem dX5_readSquare_48 : decode cX5_readSquare 48 = .ok (.if_icmp .ne 9, 3) := by decide +kernel
theorem dX5_readSquare_51 : decode cX5_readSquare 51 = .ok (.iload 5, 2) := by decide +kernel
theorem dX5_readSquare_53 : decode cX5_readSquare 53 = .ok (.iconst 1, 1) := by decide +kernel
theorem dX5_readSquare_54 : decode cX5_readSquare 54 = .ok (.if_icmp .gt 5, 3) := by decide +kernel
theorem dX5_readSquare_57 : decode cX5_readSquare 57 = .ok (.iconst (-1), 1) := by decide +kernel
theorem dX5_readSquare_58 : decode cX5_readSquare 58 = .ok (.ireturn, 1) := by decide +kernel
theorem dX5_readSquare_59 : decode cX5_readSquare 59 = .ok (.iload 5, 2) := by decide +kernel
theorem dX5_readSquare_61 : decode cX5_readSquare 61 = .ok (.iconst 2, 1) := by decide +kernel
theorem dX5_readSquare_62 : decode cX5_readSquare 62 = .ok (.idiv, 1) := by decide +kernel
theorem dX5_readSquare_63 : decode cX5_readSquare 63 = .ok (.istore 7, 2) := by decide +kernel
theorem dX5_readSquare_65 : decode cX5_readSquare 65 = .ok (.iload_n 1, 1) := by decide +kernel
theorem dX5_readSquare_66 : decode cX5_readSquare 66 = .ok (.iconst 1, 1) := by decide +kernel
theorem dX5_readSquare_67 : decode cX5_readSquare 67 = .ok (.iadd, 1) := by decide +kernel
theorem dX5_readSquare_68 : decode cX5_readSquare 68 = .ok (.istore 8, 2) := by decide +kernel
theorem dX5_readSquare_70 : decode cX5_readSquare 70 = .ok (.iconst 0, 1) := by decide +kernel
theorem dX5_readSquare_71 : decode cX5_readSquare 71 = .ok (.istore 9, 2) := by decide +kernel
theorem dX5_readSquare_73 : decode cX5_readSquare 73 = .ok (.iload 9, 2) := by decide +kernel
theorem dX5_readSquare_75 : decode cX5_readSquare 75 = .ok (.iconst 4, 1) := by decide +kernel
theorem dX5_readSquare_76 : decode cX5_readSquare 76 = .ok (.if_icmp .ge 45, 3) := by decide +kernel
theorem dX5_readSquare_79 : decode cX5_readSquare 79 = .ok (.iload 8, 2) := by decide +kernel
theorem dX5_readSquare_81 : decode cX5_readSquare 81 = .ok (.iconst (-1), 1) := by decide +kernel
theorem dX5_readSquare_82 : decode cX5_readSquare 82 = .ok (.if_icmp .eq 39, 3) := by decide +kernel
theorem dX5_readSquare_85 : decode cX5_readSquare 85 = .ok (.aload_n 0, 1) := by decide +kernel
theorem dX5_readSquare_86 : decode cX5_readSquare 86 = .ok (.iload 8, 2) := by decide +kernel
theorem dX5_readSquare_88 : decode cX5_readSquare 88 = .ok (.aload_n 2, 1) := by decide +kernel
theorem dX5_readSquare_89 : decode cX5_readSquare 89 = .ok (.iload_n 3, 1) := by decide +kernel
theorem dX5_readSquare_90 : decode cX5_readSquare 90 = .ok (.iload 9, 2) := by decide +kernel
theorem dX5_readSquare_92 : decode cX5_readSquare 92 = .ok (.iconst 2, 1) := by decide +kernel
theorem dX5_readSquare_93 : decode cX5_readSquare 93 = .ok (.irem, 1) := by decide +kernel
theorem dX5_readSquare_94 : decode cX5_readSquare 94 = .ok (.iload 7, 2) := by decide +kernel
theorem dX5_readSquare_96 : decode cX5_readSquare 96 = .ok (.imul, 1) := by decide +kernel
theorem dX5_readSquare_97 : decode cX5_readSquare 97 = .ok (.iadd, 1) := by decide +kernel
theorem dX5_readSquare_98 : decode cX5_readSquare 98 = .ok (.iload 4, 2) := by decide +kernel
theorem dX5_readSquare_100 : decode cX5_readSquare 100 = .ok (.iload 9, 2) := by decide +kernel
theorem dX5_readSquare_102 : decode cX5_readSquare 102 = .ok (.iconst 2, 1) := by decide +kernel
theorem dX5_readSquare_103 : decode cX5_readSquare 103 = .ok (.idiv, 1) := by decide +kernel
theorem dX5_readSquare_104 : decode cX5_readSquare 104 = .ok (.iload 7, 2) := by decide +kernel
theorem dX5_readSquare_106 : decode cX5_readSquare 106 = .ok (.imul, 1) := by decide +kernel
theorem dX5_readSquare_107 : decode cX5_readSquare 107 = .ok (.iadd, 1) := by decide +kernel
theorem dX5_readSquare_108 : decode cX5_readSquare 108 = .ok (.iload 7, 2) := by decide +kernel
theorem dX5_readSquare_110 : decode cX5_readSquare 110 = .ok (.invokestatic 128, 3) := by decide +kernel
theorem dX5_readSquare_113 : decode cX5_readSquare 113 = .ok (.istore 8, 2) := by decide +kernel
theorem dX5_readSquare_115 : decode cX5_readSquare 115 = .ok (.iinc 9 1, 3) := by decide +kernel
theorem dX5_readSquare_118 : decode cX5_readSquare 118 = .ok (.goto (-45), 3) := by decide +kernel
theorem dX5_readSquare_121 : decode cX5_readSquare 121 = .ok (.iload 8, 2) := by decide +kernel
theorem dX5_readSquare_123 : decode cX5_readSquare 123 = .ok (.ireturn, 1) := by decide +kernel
set_option maxRecDepth 20000 in
theorem ggX5_back_X0_undo : GoodIn wsX5_back wsX0_undo := goodIn_r _ [8, 9, 10, 11, 12, 13, 14, 15, 16, 17, 18, 19, 20, 21, 22, 23, 24, 25, 26, 44, 45, 46, 47, 48] (by decide +kernel) (by decide +kernel)
set_option maxRecDepth 20000 in
theorem gX5_back_X0_undo : GoodIn wsX5_back (wsV RX5 141 RX0 yX0_undo wsX0_undo) := goodIn_app (goodIn_of _ (by decide +kernel)) ggX5_back_X0_undo
set_option maxRecDepth 20000 in
theorem ggX5_back_X5_isMask : GoodIn wsX5_back wsX5_isMask := goodIn_r _ [29, 30, 24, 25, 26] (by decide +kernel) (by decide +kernel)
set_option maxRecDepth 20000 in
theorem gX5_back_X5_isMask : GoodIn wsX5_back (va_wsS RX5 58 yX5_isMask wsX5_isMask) := goodIn_app (goodIn_of _ (by decide +kernel)) ggX5_back_X5_isMask
set_option maxRecDepth 20000 in
theorem ggX5_back_X1_take : GoodIn wsX5_back wsX1_take := goodIn_r _ [34, 22, 48] (by decide +kernel) (by decide +kernel)
set_option maxRecDepth 20000 in
theorem gX5_back_X1_take : GoodIn wsX5_back (wsV RX5 69 RX1 yX1_take wsX1_take) := goodIn_app (goodIn_of _ (by decide +kernel)) ggX5_back_X1_take
theorem dX5_back_0 : decode cX5_back 0 = .ok (.aload_n 0, 1) := by decide +kernel
theorem dX5_back_1 : decode cX5_back 1 = .ok (.getfield 24, 3) := by decide +kernel
theorem dX5_back_4 : decode cX5_back 4 = .ok (.getfield 138, 3) := by decide +kernel
theorem dX5_back_7 : decode cX5_back 7 = .ok (.ifCond .ne 6, 3) := by decide +kernel
theorem dX5_back_10 : decode cX5_back 10 = .ok (.bipush (-3), 2) := by decide +kernel
theorem dX5_back_12 : decode cX5_back 12 = .ok (.ireturn, 1) := by decide +kernel
theorem dX5_back_13 : decode cX5_back 13 = .ok (.aload_n 0, 1) := by decide +kernel
theorem dX5_back_14 : decode cX5_back 14 = .ok (.getfield 24, 3) := by decide +kernel
theorem dX5_back_17 : decode cX5_back 17 = .ok (.aload_n 0, 1) := by decide +kernel
theorem dX5_back_18 : decode cX5_back 18 = .ok (.getfield 29, 3) := by decide +kernel
theorem dX5_back_21 : decode cX5_back 21 = .ok (.invokevirtual 141, 3) := by decide +kernel
theorem dX5_back_24 : decode cX5_back 24 = .ok (.istore_n 1, 1) := by decide +kernel
theorem dX5_back_25 : decode cX5_back 25 = .ok (.iload_n 1, 1) := by decide +kernel
theorem dX5_back_26 : decode cX5_back 26 = .ok (.invokestatic 58, 3) := by decide +kernel
theorem dX5_back_29 : decode cX5_back 29 = .ok (.ifCond .eq 16, 3) := by decide +kernel
theorem dX5_back_32 : decode cX5_back 32 = .ok (.aload_n 0, 1) := by decide +kernel
theorem dX5_back_33 : decode cX5_back 33 = .ok (.getfield 11, 3) := by decide +kernel
theorem dX5_back_36 : decode cX5_back 36 = .ok (.iload_n 1, 1) := by decide +kernel
theorem dX5_back_37 : decode cX5_back 37 = .ok (.aaload, 1) := by decide +kernel
theorem dX5_back_38 : decode cX5_back 38 = .ok (.aload_n 0, 1) := by decide +kernel
theorem dX5_back_39 : decode cX5_back 39 = .ok (.getfield 29, 3) := by decide +kernel
theorem dX5_back_42 : decode cX5_back 42 = .ok (.invokevirtual 69, 3) := by decide +kernel
theorem dX5_back_45 : decode cX5_back 45 = .ok (.aload_n 0, 1) := by decide +kernel
theorem dX5_back_46 : decode cX5_back 46 = .ok (.getfield 24, 3) := by decide +kernel
theorem dX5_back_49 : decode cX5_back 49 = .ok (.getfield 138, 3) := by decide +kernel
theorem dX5_back_52 : decode cX5_back 52 = .ok (.ireturn, 1) := by decide +kernel
set_option maxRecDepth 20000 in
theorem ggX5_become_X0_keep : GoodIn wsX5_become wsX0_keep := goodIn_r _ [8, 9, 10, 11, 12, 13, 14, 15, 16, 17, 18, 19, 20, 21, 22, 23, 24, 25, 26, 51, 52, 53, 54, 55] (by decide +kernel) (by decide +kernel)
set_option maxRecDepth 20000 in
theorem gX5_become_X0_keep : GoodIn wsX5_become (wsV RX5 145 RX0 yX0_keep wsX0_keep) := goodIn_app (goodIn_of _ (by decide +kernel)) ggX5_become_X0_keep
set_option maxRecDepth 20000 in
theorem ggX5_become_X1_take : GoodIn wsX5_become wsX1_take := goodIn_r _ [30, 26, 55] (by decide +kernel) (by decide +kernel)
set_option maxRecDepth 20000 in
theorem gX5_become_X1_take : GoodIn wsX5_become (wsV RX5 69 RX1 yX1_take wsX1_take) := goodIn_app (goodIn_of _ (by decide +kernel)) ggX5_become_X1_take
set_option maxRecDepth 20000 in
theorem ggX5_become_X1_darkCells : GoodIn wsX5_become wsX1_darkCells := goodIn_r _ [34, 26, 35, 36, 37, 38, 39, 40, 41, 55] (by decide +kernel) (by decide +kernel)
set_option maxRecDepth 20000 in
theorem gX5_become_X1_darkCells : GoodIn wsX5_become (wsV RX5 149 RX1 yX1_darkCells wsX1_darkCells) := goodIn_app (goodIn_of _ (by decide +kernel)) ggX5_become_X1_darkCells
theorem dX5_become_0 : decode cX5_become 0 = .ok (.aload_n 0, 1) := by decide +kernel
theorem dX5_become_1 : decode cX5_become 1 = .ok (.getfield 24, 3) := by decide +kernel
theorem dX5_become_4 : decode cX5_become 4 = .ok (.iload_n 1, 1) := by decide +kernel
theorem dX5_become_5 : decode cX5_become 5 = .ok (.aload_n 0, 1) := by decide +kernel
theorem dX5_become_6 : decode cX5_become 6 = .ok (.getfield 11, 3) := by decide +kernel
theorem dX5_become_9 : decode cX5_become 9 = .ok (.iload_n 1, 1) := by decide +kernel
theorem dX5_become_10 : decode cX5_become 10 = .ok (.aaload, 1) := by decide +kernel
theorem dX5_become_11 : decode cX5_become 11 = .ok (.invokevirtual 145, 3) := by decide +kernel
theorem dX5_become_14 : decode cX5_become 14 = .ok (.aload_n 0, 1) := by decide +kernel
theorem dX5_become_15 : decode cX5_become 15 = .ok (.getfield 11, 3) := by decide +kernel
theorem dX5_become_18 : decode cX5_become 18 = .ok (.iload_n 1, 1) := by decide +kernel
theorem dX5_become_19 : decode cX5_become 19 = .ok (.aaload, 1) := by decide +kernel
theorem dX5_become_20 : decode cX5_become 20 = .ok (.aload_n 0, 1) := by decide +kernel
theorem dX5_become_21 : decode cX5_become 21 = .ok (.getfield 29, 3) := by decide +kernel
theorem dX5_become_24 : decode cX5_become 24 = .ok (.invokevirtual 69, 3) := by decide +kernel
theorem dX5_become_27 : decode cX5_become 27 = .ok (.aload_n 0, 1) := by decide +kernel
theorem dX5_become_28 : decode cX5_become 28 = .ok (.getfield 29, 3) := by decide +kernel
theorem dX5_become_31 : decode cX5_become 31 = .ok (.invokevirtual 149, 3) := by decide +kernel
theorem dX5_become_34 : decode cX5_become 34 = .ok (.ireturn, 1) := by decide +kernel
set_option maxRecDepth 20000 in
theorem ggX5_cell_X5_isMask : GoodIn wsX5_cell wsX5_isMask := goodIn_r _ [5, 6, 7, 4, 8] (by decide +kernel) (by decide +kernel)
set_option maxRecDepth 20000 in
theorem gX5_cell_X5_isMask : GoodIn wsX5_cell (va_wsS RX5 58 yX5_isMask wsX5_isMask) := goodIn_app (goodIn_of _ (by decide +kernel)) ggX5_cell_X5_isMask
set_option maxRecDepth 20000 in
theorem ggX5_cell_X5_isCell : GoodIn wsX5_cell wsX5_isCell := goodIn_r _ [11, 6, 7, 4, 8] (by decide +kernel) (by decide +kernel)
set_option maxRecDepth 20000 in
theorem gX5_cell_X5_isCell : GoodIn wsX5_cell (va_wsS RX5 62 yX5_isCell wsX5_isCell) := goodIn_app (goodIn_of _ (by decide +kernel)) ggX5_cell_X5_isCell
set_option maxRecDepth 20000 in
theorem ggX5_cell_X1_isDark : GoodIn wsX5_cell wsX1_isDark := goodIn_r _ [16, 17, 27] (by decide +kernel) (by decide +kernel)
set_option maxRecDepth 20000 in
theorem gX5_cell_X1_isDark : GoodIn wsX5_cell (wsV RX5 153 RX1 yX1_isDark wsX1_isDark) := goodIn_app (goodIn_of _ (by decide +kernel)) ggX5_cell_X1_isDark
theorem dX5_cell_0 : decode cX5_cell 0 = .ok (.iload_n 1, 1) := by decide +kernel
theorem dX5_cell_1 : decode cX5_cell 1 = .ok (.invokestatic 58, 3) := by decide +kernel
theorem dX5_cell_4 : decode cX5_cell 4 = .ok (.ifCond .eq 11, 3) := by decide +kernel
theorem dX5_cell_7 : decode cX5_cell 7 = .ok (.iload_n 2, 1) := by decide +kernel
theorem dX5_cell_8 : decode cX5_cell 8 = .ok (.iload_n 3, 1) := by decide +kernel
theorem dX5_cell_9 : decode cX5_cell 9 = .ok (.invokestatic 62, 3) := by decide +kernel
theorem dX5_cell_12 : decode cX5_cell 12 = .ok (.ifCond .ne 6, 3) := by decide +kernel
theorem dX5_cell_15 : decode cX5_cell 15 = .ok (.bipush (-2), 2) := by decide +kernel
theorem dX5_cell_17 : decode cX5_cell 17 = .ok (.ireturn, 1) := by decide +kernel
theorem dX5_cell_18 : decode cX5_cell 18 = .ok (.aload_n 0, 1) := by decide +kernel
theorem dX5_cell_19 : decode cX5_cell 19 = .ok (.getfield 11, 3) := by decide +kernel
theorem dX5_cell_22 : decode cX5_cell 22 = .ok (.iload_n 1, 1) := by decide +kernel
theorem dX5_cell_23 : decode cX5_cell 23 = .ok (.aaload, 1) := by decide +kernel
theorem dX5_cell_24 : decode cX5_cell 24 = .ok (.iload_n 2, 1) := by decide +kernel
theorem dX5_cell_25 : decode cX5_cell 25 = .ok (.iload_n 3, 1) := by decide +kernel
theorem dX5_cell_26 : decode cX5_cell 26 = .ok (.invokevirtual 153, 3) := by decide +kernel
theorem dX5_cell_29 : decode cX5_cell 29 = .ok (.ifCond .eq 7, 3) := by decide +kernel
theorem dX5_cell_32 : decode cX5_cell 32 = .ok (.iconst 1, 1) := by decide +kernel
theorem dX5_cell_33 : decode cX5_cell 33 = .ok (.goto 4, 3) := by decide +kernel
theorem dX5_cell_36 : decode cX5_cell 36 = .ok (.iconst 0, 1) := by decide +kernel
theorem dX5_cell_37 : decode cX5_cell 37 = .ok (.ireturn, 1) := by decide +kernel
set_option maxRecDepth 20000 in
theorem ggX5_block_X5_isMask : GoodIn wsX5_block wsX5_isMask := goodIn_r _ [5, 6, 7, 4, 8] (by decide +kernel) (by decide +kernel)
set_option maxRecDepth 20000 in
theorem gX5_block_X5_isMask : GoodIn wsX5_block (va_wsS RX5 58 yX5_isMask wsX5_isMask) := goodIn_app (goodIn_of _ (by decide +kernel)) ggX5_block_X5_isMask
set_option maxRecDepth 20000 in
theorem ggX5_block_X5_isCell : GoodIn wsX5_block wsX5_isCell := goodIn_r _ [11, 6, 7, 4, 8] (by decide +kernel) (by decide +kernel)
set_option maxRecDepth 20000 in
theorem gX5_block_X5_isCell : GoodIn wsX5_block (va_wsS RX5 62 yX5_isCell wsX5_isCell) := goodIn_app (goodIn_of _ (by decide +kernel)) ggX5_block_X5_isCell
set_option maxRecDepth 20000 in
theorem ggX5_block_X5_within : GoodIn wsX5_block wsX5_within := goodIn_r _ [8] (by decide +kernel) (by decide +kernel)
set_option maxRecDepth 20000 in
theorem gX5_block_X5_within : GoodIn wsX5_block (va_wsS RX5 66 yX5_within wsX5_within) := goodIn_app (goodIn_of _ (by decide +kernel)) ggX5_block_X5_within
set_option maxRecDepth 20000 in
theorem ggX5_block_X1_sideOfBlock : GoodIn wsX5_block wsX1_sideOfBlock := goodIn_r _ [16, 17, 18, 19, 15, 20, 21, 22, 23, 24, 25, 35] (by decide +kernel) (by decide +kernel)
set_option maxRecDepth 20000 in
theorem gX5_block_X1_sideOfBlock : GoodIn wsX5_block (wsV RX5 156 RX1 yX1_sideOfBlock wsX1_sideOfBlock) := goodIn_app (goodIn_of _ (by decide +kernel)) ggX5_block_X1_sideOfBlock
theorem dX5_block_0 : decode cX5_block 0 = .ok (.iload_n 1, 1) := by decide +kernel
theorem dX5_block_1 : decode cX5_block 1 = .ok (.invokestatic 58, 3) := by decide +kernel
theorem dX5_block_4 : decode cX5_block 4 = .ok (.ifCond .eq 20, 3) := by decide +kernel
theorem dX5_block_7 : decode cX5_block 7 = .ok (.iload_n 2, 1) := by decide +kernel
theorem dX5_block_8 : decode cX5_block 8 = .ok (.iload_n 3, 1) := by decide +kernel
theorem dX5_block_9 : decode cX5_block 9 = .ok (.invokestatic 62, 3) := by decide +kernel
theorem dX5_block_12 : decode cX5_block 12 = .ok (.ifCond .eq 12, 3) := by decide +kernel
theorem dX5_block_15 : decode cX5_block 15 = .ok (.iload 4, 2) := by decide +kernel
theorem dX5_block_17 : decode cX5_block 17 = .ok (.iconst 3, 1) := by decide +kernel
theorem dX5_block_18 : decode cX5_block 18 = .ok (.invokestatic 66, 3) := by decide +kernel
theorem dX5_block_21 : decode cX5_block 21 = .ok (.ifCond .ne 6, 3) := by decide +kernel
theorem dX5_block_24 : decode cX5_block 24 = .ok (.bipush (-2), 2) := by decide +kernel
theorem dX5_block_26 : decode cX5_block 26 = .ok (.ireturn, 1) := by decide +kernel
theorem dX5_block_27 : decode cX5_block 27 = .ok (.aload_n 0, 1) := by decide +kernel
theorem dX5_block_28 : decode cX5_block 28 = .ok (.getfield 11, 3) := by decide +kernel
theorem dX5_block_31 : decode cX5_block 31 = .ok (.iload_n 1, 1) := by decide +kernel
theorem dX5_block_32 : decode cX5_block 32 = .ok (.aaload, 1) := by decide +kernel
theorem dX5_block_33 : decode cX5_block 33 = .ok (.iload_n 2, 1) := by decide +kernel
theorem dX5_block_34 : decode cX5_block 34 = .ok (.iload_n 3, 1) := by decide +kernel
theorem dX5_block_35 : decode cX5_block 35 = .ok (.invokevirtual 156, 3) := by decide +kernel
theorem dX5_block_38 : decode cX5_block 38 = .ok (.istore 5, 2) := by decide +kernel
theorem dX5_block_40 : decode cX5_block 40 = .ok (.iload 4, 2) := by decide +kernel
theorem dX5_block_42 : decode cX5_block 42 = .ok (.lookupswitch 38 #[(0, 26), (1, 32)], 26) := by decide +kernel
theorem dX5_block_68 : decode cX5_block 68 = .ok (.iload_n 2, 1) := by decide +kernel
theorem dX5_block_69 : decode cX5_block 69 = .ok (.iload 5, 2) := by decide +kernel
theorem dX5_block_71 : decode cX5_block 71 = .ok (.ineg, 1) := by decide +kernel
theorem dX5_block_72 : decode cX5_block 72 = .ok (.iand, 1) := by decide +kernel
theorem dX5_block_73 : decode cX5_block 73 = .ok (.ireturn, 1) := by decide +kernel
theorem dX5_block_74 : decode cX5_block 74 = .ok (.iload_n 3, 1) := by decide +kernel
theorem dX5_block_75 : decode cX5_block 75 = .ok (.iload 5, 2) := by decide +kernel
theorem dX5_block_77 : decode cX5_block 77 = .ok (.ineg, 1) := by decide +kernel
theorem dX5_block_78 : decode cX5_block 78 = .ok (.iand, 1) := by decide +kernel
theorem dX5_block_79 : decode cX5_block 79 = .ok (.ireturn, 1) := by decide +kernel
theorem dX5_block_80 : decode cX5_block 80 = .ok (.iload 5, 2) := by decide +kernel
theorem dX5_block_82 : decode cX5_block 82 = .ok (.ireturn, 1) := by decide +kernel
set_option maxRecDepth 20000 in
theorem ggX5_blocks_X5_isMask : GoodIn wsX5_blocks wsX5_isMask := goodIn_r _ [6, 7, 8, 5, 9] (by decide +kernel) (by decide +kernel)
set_option maxRecDepth 20000 in
theorem gX5_blocks_X5_isMask : GoodIn wsX5_blocks (va_wsS RX5 58 yX5_isMask wsX5_isMask) := goodIn_app (goodIn_of _ (by decide +kernel)) ggX5_blocks_X5_isMask
set_option maxRecDepth 20000 in
theorem ggX5_blocks_X5_within : GoodIn wsX5_blocks wsX5_within := goodIn_r _ [9] (by decide +kernel) (by decide +kernel)
set_option maxRecDepth 20000 in
theorem gX5_blocks_X5_within : GoodIn wsX5_blocks (va_wsS RX5 66 yX5_within wsX5_within) := goodIn_app (goodIn_of _ (by decide +kernel)) ggX5_blocks_X5_within
set_option maxRecDepth 20000 in
theorem ggX5_blocks_X4_look : GoodIn wsX5_blocks wsX4_look := goodIn_r _ [14, 15, 16, 17, 18, 19, 20, 21, 22, 23, 24, 25, 26, 27, 28, 29, 30, 31, 13, 32, 33, 34, 35, 36, 37, 38, 39, 40, 41, 42, 43, 44, 45, 46, 47, 48, 49, 8, 5, 9, 59, 60, 61, 62, 63, 64, 65] (by decide +kernel) (by decide +kernel)
set_option maxRecDepth 20000 in
theorem gX5_blocks_X4_look : GoodIn wsX5_blocks (wsV RX5 159 RX4 yX4_look wsX4_look) := goodIn_app (goodIn_of _ (by decide +kernel)) ggX5_blocks_X4_look
theorem dX5_blocks_0 : decode cX5_blocks 0 = .ok (.iload_n 1, 1) := by decide +kernel
theorem dX5_blocks_1 : decode cX5_blocks 1 = .ok (.invokestatic 58, 3) := by decide +kernel
theorem dX5_blocks_4 : decode cX5_blocks 4 = .ok (.ifCond .eq 11, 3) := by decide +kernel
theorem dX5_blocks_7 : decode cX5_blocks 7 = .ok (.iload_n 2, 1) := by decide +kernel
theorem dX5_blocks_8 : decode cX5_blocks 8 = .ok (.iconst 4, 1) := by decide +kernel
theorem dX5_blocks_9 : decode cX5_blocks 9 = .ok (.invokestatic 66, 3) := by decide +kernel
theorem dX5_blocks_12 : decode cX5_blocks 12 = .ok (.ifCond .ne 6, 3) := by decide +kernel
theorem dX5_blocks_15 : decode cX5_blocks 15 = .ok (.bipush (-2), 2) := by decide +kernel
theorem dX5_blocks_17 : decode cX5_blocks 17 = .ok (.ireturn, 1) := by decide +kernel
theorem dX5_blocks_18 : decode cX5_blocks 18 = .ok (.aload_n 0, 1) := by decide +kernel
theorem dX5_blocks_19 : decode cX5_blocks 19 = .ok (.getfield 49, 3) := by decide +kernel
theorem dX5_blocks_22 : decode cX5_blocks 22 = .ok (.aload_n 0, 1) := by decide +kernel
theorem dX5_blocks_23 : decode cX5_blocks 23 = .ok (.getfield 11, 3) := by decide +kernel
theorem dX5_blocks_26 : decode cX5_blocks 26 = .ok (.iload_n 1, 1) := by decide +kernel
theorem dX5_blocks_27 : decode cX5_blocks 27 = .ok (.aaload, 1) := by decide +kernel
theorem dX5_blocks_28 : decode cX5_blocks 28 = .ok (.invokevirtual 159, 3) := by decide +kernel
theorem dX5_blocks_31 : decode cX5_blocks 31 = .ok (.iload_n 2, 1) := by decide +kernel
theorem dX5_blocks_32 : decode cX5_blocks 32 = .ok (.tableswitch 60 0 2 #[28, 44, 52], 28) := by decide +kernel
theorem dX5_blocks_60 : decode cX5_blocks 60 = .ok (.aload_n 0, 1) := by decide +kernel
theorem dX5_blocks_61 : decode cX5_blocks 61 = .ok (.getfield 49, 3) := by decide +kernel
theorem dX5_blocks_64 : decode cX5_blocks 64 = .ok (.getfield 160, 3) := by decide +kernel
theorem dX5_blocks_67 : decode cX5_blocks 67 = .ok (.aload_n 0, 1) := by decide +kernel
theorem dX5_blocks_68 : decode cX5_blocks 68 = .ok (.getfield 49, 3) := by decide +kernel
theorem dX5_blocks_71 : decode cX5_blocks 71 = .ok (.getfield 163, 3) := by decide +kernel
theorem dX5_blocks_74 : decode cX5_blocks 74 = .ok (.isub, 1) := by decide +kernel
theorem dX5_blocks_75 : decode cX5_blocks 75 = .ok (.ireturn, 1) := by decide +kernel
theorem dX5_blocks_76 : decode cX5_blocks 76 = .ok (.aload_n 0, 1) := by decide +kernel
theorem dX5_blocks_77 : decode cX5_blocks 77 = .ok (.getfield 49, 3) := by decide +kernel
theorem dX5_blocks_80 : decode cX5_blocks 80 = .ok (.getfield 166, 3) := by decide +kernel
theorem dX5_blocks_83 : decode cX5_blocks 83 = .ok (.ireturn, 1) := by decide +kernel
theorem dX5_blocks_84 : decode cX5_blocks 84 = .ok (.aload_n 0, 1) := by decide +kernel
theorem dX5_blocks_85 : decode cX5_blocks 85 = .ok (.getfield 49, 3) := by decide +kernel
theorem dX5_blocks_88 : decode cX5_blocks 88 = .ok (.getfield 163, 3) := by decide +kernel
theorem dX5_blocks_91 : decode cX5_blocks 91 = .ok (.ireturn, 1) := by decide +kernel
theorem dX5_blocks_92 : decode cX5_blocks 92 = .ok (.aload_n 0, 1) := by decide +kernel
theorem dX5_blocks_93 : decode cX5_blocks 93 = .ok (.getfield 49, 3) := by decide +kernel
theorem dX5_blocks_96 : decode cX5_blocks 96 = .ok (.getfield 169, 3) := by decide +kernel
theorem dX5_blocks_99 : decode cX5_blocks 99 = .ok (.ireturn, 1) := by decide +kernel
set_option maxRecDepth 20000 in
theorem ggX5_shown_X5_isMask : GoodIn wsX5_shown wsX5_isMask := goodIn_r _ [6, 7, 8, 5, 9] (by decide +kernel) (by decide +kernel)
set_option maxRecDepth 20000 in
theorem gX5_shown_X5_isMask : GoodIn wsX5_shown (va_wsS RX5 58 yX5_isMask wsX5_isMask) := goodIn_app (goodIn_of _ (by decide +kernel)) ggX5_shown_X5_isMask
set_option maxRecDepth 20000 in
theorem ggX5_shown_X5_within : GoodIn wsX5_shown wsX5_within := goodIn_r _ [9] (by decide +kernel) (by decide +kernel)
set_option maxRecDepth 20000 in
theorem gX5_shown_X5_within : GoodIn wsX5_shown (va_wsS RX5 66 yX5_within wsX5_within) := goodIn_app (goodIn_of _ (by decide +kernel)) ggX5_shown_X5_within
set_option maxRecDepth 20000 in
theorem ggX5_shown_X4_look : GoodIn wsX5_shown wsX4_look := goodIn_r _ [14, 15, 16, 17, 18, 19, 20, 21, 22, 23, 24, 25, 26, 27, 28, 29, 30, 31, 13, 32, 33, 34, 35, 36, 37, 38, 39, 40, 41, 42, 43, 44, 45, 46, 47, 48, 49, 8, 5, 9, 63, 64, 65, 66, 67, 68, 69] (by decide +kernel) (by decide +kernel)
set_option maxRecDepth 20000 in
theorem gX5_shown_X4_look : GoodIn wsX5_shown (wsV RX5 159 RX4 yX4_look wsX4_look) := goodIn_app (goodIn_of _ (by decide +kernel)) ggX5_shown_X4_look
set_option maxRecDepth 20000 in
theorem ggX5_shown_X4_sign : GoodIn wsX5_shown wsX4_sign := goodIn_r _ [53, 16, 49, 8, 5, 9, 63, 64, 65, 66, 67, 68] (by decide +kernel) (by decide +kernel)
set_option maxRecDepth 20000 in
theorem gX5_shown_X4_sign : GoodIn wsX5_shown (wsV RX5 172 RX4 yX4_sign wsX4_sign) := goodIn_app (goodIn_of _ (by decide +kernel)) ggX5_shown_X4_sign
theorem dX5_shown_0 : decode cX5_shown 0 = .ok (.iload_n 1, 1) := by decide +kernel
theorem dX5_shown_1 : decode cX5_shown 1 = .ok (.invokestatic 58, 3) := by decide +kernel
theorem dX5_shown_4 : decode cX5_shown 4 = .ok (.ifCond .eq 18, 3) := by decide +kernel
theorem dX5_shown_7 : decode cX5_shown 7 = .ok (.iload_n 2, 1) := by decide +kernel
theorem dX5_shown_8 : decode cX5_shown 8 = .ok (.iconst (-1), 1) := by decide +kernel
theorem dX5_shown_9 : decode cX5_shown 9 = .ok (.if_icmp .eq 16, 3) := by decide +kernel
theorem dX5_shown_12 : decode cX5_shown 12 = .ok (.iload_n 2, 1) := by decide +kernel
theorem dX5_shown_13 : decode cX5_shown 13 = .ok (.sipush 341, 3) := by decide +kernel
theorem dX5_shown_16 : decode cX5_shown 16 = .ok (.invokestatic 66, 3) := by decide +kernel
theorem dX5_shown_19 : decode cX5_shown 19 = .ok (.ifCond .ne 6, 3) := by decide +kernel
theorem dX5_shown_22 : decode cX5_shown 22 = .ok (.bipush (-2), 2) := by decide +kernel
theorem dX5_shown_24 : decode cX5_shown 24 = .ok (.ireturn, 1) := by decide +kernel
theorem dX5_shown_25 : decode cX5_shown 25 = .ok (.aload_n 0, 1) := by decide +kernel
theorem dX5_shown_26 : decode cX5_shown 26 = .ok (.getfield 49, 3) := by decide +kernel
theorem dX5_shown_29 : decode cX5_shown 29 = .ok (.aload_n 0, 1) := by decide +kernel
theorem dX5_shown_30 : decode cX5_shown 30 = .ok (.getfield 11, 3) := by decide +kernel
theorem dX5_shown_33 : decode cX5_shown 33 = .ok (.iload_n 1, 1) := by decide +kernel
theorem dX5_shown_34 : decode cX5_shown 34 = .ok (.aaload, 1) := by decide +kernel
theorem dX5_shown_35 : decode cX5_shown 35 = .ok (.invokevirtual 159, 3) := by decide +kernel
theorem dX5_shown_38 : decode cX5_shown 38 = .ok (.iload_n 2, 1) := by decide +kernel
theorem dX5_shown_39 : decode cX5_shown 39 = .ok (.iconst (-1), 1) := by decide +kernel
theorem dX5_shown_40 : decode cX5_shown 40 = .ok (.if_icmp .ne 13, 3) := by decide +kernel
theorem dX5_shown_43 : decode cX5_shown 43 = .ok (.aload_n 0, 1) := by decide +kernel
theorem dX5_shown_44 : decode cX5_shown 44 = .ok (.getfield 49, 3) := by decide +kernel
theorem dX5_shown_47 : decode cX5_shown 47 = .ok (.getfield 160, 3) := by decide +kernel
theorem dX5_shown_50 : decode cX5_shown 50 = .ok (.goto 11, 3) := by decide +kernel
theorem dX5_shown_53 : decode cX5_shown 53 = .ok (.aload_n 0, 1) := by decide +kernel
theorem dX5_shown_54 : decode cX5_shown 54 = .ok (.getfield 49, 3) := by decide +kernel
theorem dX5_shown_57 : decode cX5_shown 57 = .ok (.iload_n 2, 1) := by decide +kernel
theorem dX5_shown_58 : decode cX5_shown 58 = .ok (.invokevirtual 172, 3) := by decide +kernel
theorem dX5_shown_61 : decode cX5_shown 61 = .ok (.ireturn, 1) := by decide +kernel
set_option maxRecDepth 20000 in
theorem ggX5_all_X5_isMask : GoodIn wsX5_all wsX5_isMask := goodIn_r _ [8, 9, 10, 7, 11] (by decide +kernel) (by decide +kernel)
set_option maxRecDepth 20000 in
theorem gX5_all_X5_isMask : GoodIn wsX5_all (va_wsS RX5 58 yX5_isMask wsX5_isMask) := goodIn_app (goodIn_of _ (by decide +kernel)) ggX5_all_X5_isMask
set_option maxRecDepth 20000 in
theorem ggX5_all_X5_within : GoodIn wsX5_all wsX5_within := goodIn_r _ [11] (by decide +kernel) (by decide +kernel)
set_option maxRecDepth 20000 in
theorem gX5_all_X5_within : GoodIn wsX5_all (va_wsS RX5 66 yX5_within wsX5_within) := goodIn_app (goodIn_of _ (by decide +kernel)) ggX5_all_X5_within
set_option maxRecDepth 20000 in
theorem ggX5_all_X2_look : GoodIn wsX5_all wsX2_look := goodIn_r _ [16, 17, 18, 19, 20, 21, 22, 23, 24, 25, 26, 27, 28, 29, 30, 31, 32, 33, 34, 35, 36, 37, 38, 39, 40, 15, 41, 42, 43, 44, 45, 46, 47, 48, 49, 50, 51, 52, 53, 54, 55, 56, 57, 58, 59, 60, 61, 62, 63, 64, 65, 66, 109, 110, 111, 112, 113, 114] (by decide +kernel) (by decide +kernel)
set_option maxRecDepth 20000 in
theorem gX5_all_X2_look : GoodIn wsX5_all (wsV RX5 108 RX2 yX2_look wsX2_look) := goodIn_app (goodIn_of _ (by decide +kernel)) ggX5_all_X2_look
set_option maxRecDepth 20000 in
theorem ggX5_all_X1_border : GoodIn wsX5_all wsX1_border := goodIn_r _ [70, 25, 71, 72, 73, 74, 75, 76, 77, 78, 79, 80, 23, 81, 82, 83, 84, 85, 114] (by decide +kernel) (by decide +kernel)
set_option maxRecDepth 20000 in
theorem gX5_all_X1_border : GoodIn wsX5_all (wsV RX5 178 RX1 yX1_border wsX1_border) := goodIn_app (goodIn_of _ (by decide +kernel)) ggX5_all_X1_border
set_option maxRecDepth 20000 in
theorem ggX5_all_X1_takeTurnedOver : GoodIn wsX5_all wsX1_takeTurnedOver := goodIn_r _ [89, 25, 90, 114] (by decide +kernel) (by decide +kernel)
set_option maxRecDepth 20000 in
theorem gX5_all_X1_takeTurnedOver : GoodIn wsX5_all (wsV RX5 96 RX1 yX1_takeTurnedOver wsX1_takeTurnedOver) := goodIn_app (goodIn_of _ (by decide +kernel)) ggX5_all_X1_takeTurnedOver
set_option maxRecDepth 20000 in
theorem ggX5_all_X2_partsOffTheEdge : GoodIn wsX5_all wsX2_partsOffTheEdge := goodIn_r _ [94, 19, 95, 96, 97, 15, 98, 47, 10, 7, 11, 109, 110, 111, 112, 113] (by decide +kernel) (by decide +kernel)
set_option maxRecDepth 20000 in
theorem gX5_all_X2_partsOffTheEdge : GoodIn wsX5_all (wsV RX5 181 RX2 yX2_partsOffTheEdge wsX2_partsOffTheEdge) := goodIn_app (goodIn_of _ (by decide +kernel)) ggX5_all_X2_partsOffTheEdge
set_option maxRecDepth 20000 in
theorem ggX5_all_X1_darkCells : GoodIn wsX5_all wsX1_darkCells := goodIn_r _ [85, 25, 71, 72, 73, 74, 75, 76, 77, 114] (by decide +kernel) (by decide +kernel)
set_option maxRecDepth 20000 in
theorem gX5_all_X1_darkCells : GoodIn wsX5_all (wsV RX5 149 RX1 yX1_darkCells wsX1_darkCells) := goodIn_app (goodIn_of _ (by decide +kernel)) ggX5_all_X1_darkCells
theorem dX5_all_0 : decode cX5_all 0 = .ok (.iload_n 1, 1) := by decide +kernel
theorem dX5_all_1 : decode cX5_all 1 = .ok (.invokestatic 58, 3) := by decide +kernel
theorem dX5_all_4 : decode cX5_all 4 = .ok (.ifCond .eq 11, 3) := by decide +kernel
theorem dX5_all_7 : decode cX5_all 7 = .ok (.iload_n 2, 1) := by decide +kernel
theorem dX5_all_8 : decode cX5_all 8 = .ok (.iconst 4, 1) := by decide +kernel
theorem dX5_all_9 : decode cX5_all 9 = .ok (.invokestatic 66, 3) := by decide +kernel
theorem dX5_all_12 : decode cX5_all 12 = .ok (.ifCond .ne 6, 3) := by decide +kernel
theorem dX5_all_15 : decode cX5_all 15 = .ok (.bipush (-2), 2) := by decide +kernel
theorem dX5_all_17 : decode cX5_all 17 = .ok (.ireturn, 1) := by decide +kernel
theorem dX5_all_18 : decode cX5_all 18 = .ok (.iload_n 2, 1) := by decide +kernel
theorem dX5_all_19 : decode cX5_all 19 = .ok (.tableswitch 88 0 2 #[25, 46, 56], 25) := by decide +kernel
theorem dX5_all_44 : decode cX5_all 44 = .ok (.aload_n 0, 1) := by decide +kernel
theorem dX5_all_45 : decode cX5_all 45 = .ok (.getfield 39, 3) := by decide +kernel
theorem dX5_all_48 : decode cX5_all 48 = .ok (.aload_n 0, 1) := by decide +kernel
theorem dX5_all_49 : decode cX5_all 49 = .ok (.getfield 11, 3) := by decide +kernel
theorem dX5_all_52 : decode cX5_all 52 = .ok (.iload_n 1, 1) := by decide +kernel
theorem dX5_all_53 : decode cX5_all 53 = .ok (.aaload, 1) := by decide +kernel
theorem dX5_all_54 : decode cX5_all 54 = .ok (.invokevirtual 108, 3) := by decide +kernel
theorem dX5_all_57 : decode cX5_all 57 = .ok (.aload_n 0, 1) := by decide +kernel
theorem dX5_all_58 : decode cX5_all 58 = .ok (.getfield 39, 3) := by decide +kernel
theorem dX5_all_61 : decode cX5_all 61 = .ok (.getfield 175, 3) := by decide +kernel
theorem dX5_all_64 : decode cX5_all 64 = .ok (.ireturn, 1) := by decide +kernel
theorem dX5_all_65 : decode cX5_all 65 = .ok (.aload_n 0, 1) := by decide +kernel
theorem dX5_all_66 : decode cX5_all 66 = .ok (.getfield 11, 3) := by decide +kernel
theorem dX5_all_69 : decode cX5_all 69 = .ok (.iload_n 1, 1) := by decide +kernel
theorem dX5_all_70 : decode cX5_all 70 = .ok (.aaload, 1) := by decide +kernel
theorem dX5_all_71 : decode cX5_all 71 = .ok (.invokevirtual 178, 3) := by decide +kernel
theorem dX5_all_74 : decode cX5_all 74 = .ok (.ireturn, 1) := by decide +kernel
theorem dX5_all_75 : decode cX5_all 75 = .ok (.aload_n 0, 1) := by decide +kernel
theorem dX5_all_76 : decode cX5_all 76 = .ok (.getfield 33, 3) := by decide +kernel
theorem dX5_all_79 : decode cX5_all 79 = .ok (.aload_n 0, 1) := by decide +kernel
theorem dX5_all_80 : decode cX5_all 80 = .ok (.getfield 11, 3) := by decide +kernel
theorem dX5_all_83 : decode cX5_all 83 = .ok (.iload_n 1, 1) := by decide +kernel
theorem dX5_all_84 : decode cX5_all 84 = .ok (.aaload, 1) := by decide +kernel
theorem dX5_all_85 : decode cX5_all 85 = .ok (.invokevirtual 96, 3) := by decide +kernel
theorem dX5_all_88 : decode cX5_all 88 = .ok (.aload_n 0, 1) := by decide +kernel
theorem dX5_all_89 : decode cX5_all 89 = .ok (.getfield 43, 3) := by decide +kernel
theorem dX5_all_92 : decode cX5_all 92 = .ok (.aload_n 0, 1) := by decide +kernel
theorem dX5_all_93 : decode cX5_all 93 = .ok (.getfield 33, 3) := by decide +kernel
theorem dX5_all_96 : decode cX5_all 96 = .ok (.invokevirtual 108, 3) := by decide +kernel
theorem dX5_all_99 : decode cX5_all 99 = .ok (.aload_n 0, 1) := by decide +kernel
theorem dX5_all_100 : decode cX5_all 100 = .ok (.getfield 43, 3) := by decide +kernel
theorem dX5_all_103 : decode cX5_all 103 = .ok (.invokevirtual 181, 3) := by decide +kernel
theorem dX5_all_106 : decode cX5_all 106 = .ok (.ireturn, 1) := by decide +kernel
theorem dX5_all_107 : decode cX5_all 107 = .ok (.aload_n 0, 1) := by decide +kernel
theorem dX5_all_108 : decode cX5_all 108 = .ok (.getfield 11, 3) := by decide +kernel
theorem dX5_all_111 : decode cX5_all 111 = .ok (.iload_n 1, 1) := by decide +kernel
theorem dX5_all_112 : decode cX5_all 112 = .ok (.aaload, 1) := by decide +kernel
theorem dX5_all_113 : decode cX5_all 113 = .ok (.invokevirtual 149, 3) := by decide +kernel
theorem dX5_all_116 : decode cX5_all 116 = .ok (.ireturn, 1) := by decide +kernel
set_option maxRecDepth 20000 in
theorem ggX5_label_X5_isMask : GoodIn wsX5_label wsX5_isMask := goodIn_r _ [6, 7, 8, 5, 9] (by decide +kernel) (by decide +kernel)
set_option maxRecDepth 20000 in
theorem gX5_label_X5_isMask : GoodIn wsX5_label (va_wsS RX5 58 yX5_isMask wsX5_isMask) := goodIn_app (goodIn_of _ (by decide +kernel)) ggX5_label_X5_isMask
set_option maxRecDepth 20000 in
theorem ggX5_label_X5_isCell : GoodIn wsX5_label wsX5_isCell := goodIn_r _ [12, 7, 8, 5, 9] (by decide +kernel) (by decide +kernel)
set_option maxRecDepth 20000 in
theorem gX5_label_X5_isCell : GoodIn wsX5_label (va_wsS RX5 62 yX5_isCell wsX5_isCell) := goodIn_app (goodIn_of _ (by decide +kernel)) ggX5_label_X5_isCell
set_option maxRecDepth 20000 in
theorem ggX5_label_X2_look : GoodIn wsX5_label wsX2_look := goodIn_r _ [17, 18, 19, 20, 21, 22, 23, 24, 25, 26, 27, 28, 29, 30, 31, 32, 33, 34, 35, 36, 37, 38, 39, 40, 41, 16, 42, 43, 44, 45, 46, 47, 48, 49, 50, 51, 52, 53, 54, 55, 56, 57, 58, 59, 60, 61, 62, 63, 64, 65, 66, 67, 78, 79, 80, 81, 82, 83] (by decide +kernel) (by decide +kernel)
set_option maxRecDepth 20000 in
theorem gX5_label_X2_look : GoodIn wsX5_label (wsV RX5 108 RX2 yX2_look wsX2_look) := goodIn_app (goodIn_of _ (by decide +kernel)) ggX5_label_X2_look
set_option maxRecDepth 20000 in
theorem ggX5_label_X2_labelAt : GoodIn wsX5_label wsX2_labelAt := goodIn_r _ [56, 19, 78, 79, 80, 81, 82] (by decide +kernel) (by decide +kernel)
set_option maxRecDepth 20000 in
theorem gX5_label_X2_labelAt : GoodIn wsX5_label (wsV RX5 111 RX2 yX2_labelAt wsX2_labelAt) := goodIn_app (goodIn_of _ (by decide +kernel)) ggX5_label_X2_labelAt
theorem dX5_label_0 : decode cX5_label 0 = .ok (.iload_n 1, 1) := by decide +kernel
theorem dX5_label_1 : decode cX5_label 1 = .ok (.invokestatic 58, 3) := by decide +kernel
theorem dX5_label_4 : decode cX5_label 4 = .ok (.ifCond .eq 11, 3) := by decide +kernel
theorem dX5_label_7 : decode cX5_label 7 = .ok (.iload_n 2, 1) := by decide +kernel
theorem dX5_label_8 : decode cX5_label 8 = .ok (.iload_n 3, 1) := by decide +kernel
theorem dX5_label_9 : decode cX5_label 9 = .ok (.invokestatic 62, 3) := by decide +kernel
theorem dX5_label_12 : decode cX5_label 12 = .ok (.ifCond .ne 6, 3) := by decide +kernel
theorem dX5_label_15 : decode cX5_label 15 = .ok (.bipush (-2), 2) := by decide +kernel
theorem dX5_label_17 : decode cX5_label 17 = .ok (.ireturn, 1) := by decide +kernel
theorem dX5_label_18 : decode cX5_label 18 = .ok (.aload_n 0, 1) := by decide +kernel
theorem dX5_label_19 : decode cX5_label 19 = .ok (.getfield 39, 3) := by decide +kernel
theorem dX5_label_22 : decode cX5_label 22 = .ok (.aload_n 0, 1) := by decide +kernel
theorem dX5_label_23 : decode cX5_label 23 = .ok (.getfield 11, 3) := by decide +kernel
theorem dX5_label_26 : decode cX5_label 26 = .ok (.iload_n 1, 1) := by decide +kernel
theorem dX5_label_27 : decode cX5_label 27 = .ok (.aaload, 1) := by decide +kernel
theorem dX5_label_28 : decode cX5_label 28 = .ok (.invokevirtual 108, 3) := by decide +kernel
theorem dX5_label_31 : decode cX5_label 31 = .ok (.aload_n 0, 1) := by decide +kernel
theorem dX5_label_32 : decode cX5_label 32 = .ok (.getfield 39, 3) := by decide +kernel
theorem dX5_label_35 : decode cX5_label 35 = .ok (.iload_n 2, 1) := by decide +kernel
theorem dX5_label_36 : decode cX5_label 36 = .ok (.iload_n 3, 1) := by decide +kernel
theorem dX5_label_37 : decode cX5_label 37 = .ok (.invokevirtual 111, 3) := by decide +kernel
theorem dX5_label_40 : decode cX5_label 40 = .ok (.ireturn, 1) := by decide +kernel
set_option maxRecDepth 20000 in
theorem ggX5_part_X5_isMask : GoodIn wsX5_part wsX5_isMask := goodIn_r _ [6, 7, 8, 5, 9] (by decide +kernel) (by decide +kernel)
set_option maxRecDepth 20000 in
theorem gX5_part_X5_isMask : GoodIn wsX5_part (va_wsS RX5 58 yX5_isMask wsX5_isMask) := goodIn_app (goodIn_of _ (by decide +kernel)) ggX5_part_X5_isMask
set_option maxRecDepth 20000 in
theorem ggX5_part_X5_within : GoodIn wsX5_part wsX5_within := goodIn_r _ [9] (by decide +kernel) (by decide +kernel)
set_option maxRecDepth 20000 in
theorem gX5_part_X5_within : GoodIn wsX5_part (va_wsS RX5 66 yX5_within wsX5_within) := goodIn_app (goodIn_of _ (by decide +kernel)) ggX5_part_X5_within
set_option maxRecDepth 20000 in
theorem ggX5_part_X2_look : GoodIn wsX5_part wsX2_look := goodIn_r _ [14, 15, 16, 17, 18, 19, 20, 21, 22, 23, 24, 25, 26, 27, 28, 29, 30, 31, 32, 33, 34, 35, 36, 37, 38, 13, 39, 40, 41, 42, 43, 44, 45, 46, 47, 48, 49, 50, 51, 52, 53, 54, 55, 56, 57, 58, 59, 60, 61, 62, 63, 64, 78, 79, 80, 81, 82, 83] (by decide +kernel) (by decide +kernel)
set_option maxRecDepth 20000 in
theorem gX5_part_X2_look : GoodIn wsX5_part (wsV RX5 108 RX2 yX2_look wsX2_look) := goodIn_app (goodIn_of _ (by decide +kernel)) ggX5_part_X2_look
set_option maxRecDepth 20000 in
theorem ggX5_part_X2_figure : GoodIn wsX5_part wsX2_figure := goodIn_r _ [68, 17, 45, 8, 5, 9, 78, 79, 80, 81, 82] (by decide +kernel) (by decide +kernel)
set_option maxRecDepth 20000 in
theorem gX5_part_X2_figure : GoodIn wsX5_part (wsV RX5 184 RX2 yX2_figure wsX2_figure) := goodIn_app (goodIn_of _ (by decide +kernel)) ggX5_part_X2_figure
theorem dX5_part_0 : decode cX5_part 0 = .ok (.iload_n 1, 1) := by decide +kernel
theorem dX5_part_1 : decode cX5_part 1 = .ok (.invokestatic 58, 3) := by decide +kernel
theorem dX5_part_4 : decode cX5_part 4 = .ok (.ifCond .eq 12, 3) := by decide +kernel
theorem dX5_part_7 : decode cX5_part 7 = .ok (.iload_n 3, 1) := by decide +kernel
theorem dX5_part_8 : decode cX5_part 8 = .ok (.bipush 6, 2) := by decide +kernel
theorem dX5_part_10 : decode cX5_part 10 = .ok (.invokestatic 66, 3) := by decide +kernel
theorem dX5_part_13 : decode cX5_part 13 = .ok (.ifCond .ne 6, 3) := by decide +kernel
theorem dX5_part_16 : decode cX5_part 16 = .ok (.bipush (-2), 2) := by decide +kernel
theorem dX5_part_18 : decode cX5_part 18 = .ok (.ireturn, 1) := by decide +kernel
theorem dX5_part_19 : decode cX5_part 19 = .ok (.aload_n 0, 1) := by decide +kernel
theorem dX5_part_20 : decode cX5_part 20 = .ok (.getfield 39, 3) := by decide +kernel
theorem dX5_part_23 : decode cX5_part 23 = .ok (.aload_n 0, 1) := by decide +kernel
theorem dX5_part_24 : decode cX5_part 24 = .ok (.getfield 11, 3) := by decide +kernel
theorem dX5_part_27 : decode cX5_part 27 = .ok (.iload_n 1, 1) := by decide +kernel
theorem dX5_part_28 : decode cX5_part 28 = .ok (.aaload, 1) := by decide +kernel
theorem dX5_part_29 : decode cX5_part 29 = .ok (.invokevirtual 108, 3) := by decide +kernel
theorem dX5_part_32 : decode cX5_part 32 = .ok (.iload_n 2, 1) := by decide +kernel
theorem dX5_part_33 : decode cX5_part 33 = .ok (.aload_n 0, 1) := by decide +kernel
theorem dX5_part_34 : decode cX5_part 34 = .ok (.getfield 39, 3) := by decide +kernel
theorem dX5_part_37 : decode cX5_part 37 = .ok (.getfield 175, 3) := by decide +kernel
theorem dX5_part_40 : decode cX5_part 40 = .ok (.invokestatic 66, 3) := by decide +kernel
theorem dX5_part_43 : decode cX5_part 43 = .ok (.ifCond .ne 6, 3) := by decide +kernel
theorem dX5_part_46 : decode cX5_part 46 = .ok (.bipush (-2), 2) := by decide +kernel
theorem dX5_part_48 : decode cX5_part 48 = .ok (.ireturn, 1) := by decide +kernel
theorem dX5_part_49 : decode cX5_part 49 = .ok (.aload_n 0, 1) := by decide +kernel
theorem dX5_part_50 : decode cX5_part 50 = .ok (.getfield 39, 3) := by decide +kernel
theorem dX5_part_53 : decode cX5_part 53 = .ok (.iload_n 2, 1) := by decide +kernel
theorem dX5_part_54 : decode cX5_part 54 = .ok (.iload_n 3, 1) := by decide +kernel
theorem dX5_part_55 : decode cX5_part 55 = .ok (.invokevirtual 184, 3) := by decide +kernel
theorem dX5_part_58 : decode cX5_part 58 = .ok (.ireturn, 1) := by decide +kernel
set_option maxRecDepth 20000 in
theorem ggX5_near_X5_isMask : GoodIn wsX5_near wsX5_isMask := goodIn_r _ [5, 6, 7, 4, 8] (by decide +kernel) (by decide +kernel)
set_option maxRecDepth 20000 in
theorem gX5_near_X5_isMask : GoodIn wsX5_near (va_wsS RX5 58 yX5_isMask wsX5_isMask) := goodIn_app (goodIn_of _ (by decide +kernel)) ggX5_near_X5_isMask
set_option maxRecDepth 20000 in
theorem ggX5_near_X5_isCell : GoodIn wsX5_near wsX5_isCell := goodIn_r _ [11, 6, 7, 4, 8] (by decide +kernel) (by decide +kernel)
set_option maxRecDepth 20000 in
theorem gX5_near_X5_isCell : GoodIn wsX5_near (va_wsS RX5 62 yX5_isCell wsX5_isCell) := goodIn_app (goodIn_of _ (by decide +kernel)) ggX5_near_X5_isCell
set_option maxRecDepth 20000 in
theorem ggX5_near_X1_distanceFrom : GoodIn wsX5_near wsX1_distanceFrom := goodIn_r _ [16, 17, 18, 19, 20, 21, 22, 23, 15, 24, 34] (by decide +kernel) (by decide +kernel)
set_option maxRecDepth 20000 in
theorem gX5_near_X1_distanceFrom : GoodIn wsX5_near (wsV RX5 187 RX1 yX1_distanceFrom wsX1_distanceFrom) := goodIn_app (goodIn_of _ (by decide +kernel)) ggX5_near_X1_distanceFrom
theorem dX5_near_0 : decode cX5_near 0 = .ok (.iload_n 1, 1) := by decide +kernel
theorem dX5_near_1 : decode cX5_near 1 = .ok (.invokestatic 58, 3) := by decide +kernel
theorem dX5_near_4 : decode cX5_near 4 = .ok (.ifCond .eq 11, 3) := by decide +kernel
theorem dX5_near_7 : decode cX5_near 7 = .ok (.iload_n 2, 1) := by decide +kernel
theorem dX5_near_8 : decode cX5_near 8 = .ok (.iload_n 3, 1) := by decide +kernel
theorem dX5_near_9 : decode cX5_near 9 = .ok (.invokestatic 62, 3) := by decide +kernel
theorem dX5_near_12 : decode cX5_near 12 = .ok (.ifCond .ne 6, 3) := by decide +kernel
theorem dX5_near_15 : decode cX5_near 15 = .ok (.bipush (-2), 2) := by decide +kernel
theorem dX5_near_17 : decode cX5_near 17 = .ok (.ireturn, 1) := by decide +kernel
theorem dX5_near_18 : decode cX5_near 18 = .ok (.aload_n 0, 1) := by decide +kernel
theorem dX5_near_19 : decode cX5_near 19 = .ok (.getfield 11, 3) := by decide +kernel
theorem dX5_near_22 : decode cX5_near 22 = .ok (.iload_n 1, 1) := by decide +kernel
theorem dX5_near_23 : decode cX5_near 23 = .ok (.aaload, 1) := by decide +kernel
theorem dX5_near_24 : decode cX5_near 24 = .ok (.iload_n 2, 1) := by decide +kernel
theorem dX5_near_25 : decode cX5_near 25 = .ok (.iload_n 3, 1) := by decide +kernel
theorem dX5_near_26 : decode cX5_near 26 = .ok (.invokevirtual 187, 3) := by decide +kernel
theorem dX5_near_29 : decode cX5_near 29 = .ok (.ireturn, 1) := by decide +kernel
set_option maxRecDepth 20000 in
theorem ggX5_both_X5_isMask : GoodIn wsX5_both wsX5_isMask := goodIn_r _ [5, 6, 7, 4, 8] (by decide +kernel) (by decide +kernel)
set_option maxRecDepth 20000 in
theorem gX5_both_X5_isMask : GoodIn wsX5_both (va_wsS RX5 58 yX5_isMask wsX5_isMask) := goodIn_app (goodIn_of _ (by decide +kernel)) ggX5_both_X5_isMask
set_option maxRecDepth 20000 in
theorem ggX5_both_X5_within : GoodIn wsX5_both wsX5_within := goodIn_r _ [8] (by decide +kernel) (by decide +kernel)
set_option maxRecDepth 20000 in
theorem gX5_both_X5_within : GoodIn wsX5_both (va_wsS RX5 66 yX5_within wsX5_within) := goodIn_app (goodIn_of _ (by decide +kernel)) ggX5_both_X5_within
set_option maxRecDepth 20000 in
theorem ggX5_both_X1_sameAs : GoodIn wsX5_both wsX1_sameAs := goodIn_r _ [13, 14, 52] (by decide +kernel) (by decide +kernel)
set_option maxRecDepth 20000 in
theorem gX5_both_X1_sameAs : GoodIn wsX5_both (wsV RX5 190 RX1 yX1_sameAs wsX1_sameAs) := goodIn_app (goodIn_of _ (by decide +kernel)) ggX5_both_X1_sameAs
set_option maxRecDepth 20000 in
theorem ggX5_both_X1_darkCellsIn : GoodIn wsX5_both wsX1_darkCellsIn := goodIn_r _ [18, 14, 19, 20, 21, 22, 23, 24, 25, 52] (by decide +kernel) (by decide +kernel)
set_option maxRecDepth 20000 in
theorem gX5_both_X1_darkCellsIn : GoodIn wsX5_both (wsV RX5 194 RX1 yX1_darkCellsIn wsX1_darkCellsIn) := goodIn_app (goodIn_of _ (by decide +kernel)) ggX5_both_X1_darkCellsIn
set_option maxRecDepth 20000 in
theorem ggX5_both_X1_darkCells : GoodIn wsX5_both wsX1_darkCells := goodIn_r _ [29, 14, 19, 20, 21, 22, 23, 24, 25, 52] (by decide +kernel) (by decide +kernel)
set_option maxRecDepth 20000 in
theorem gX5_both_X1_darkCells : GoodIn wsX5_both (wsV RX5 149 RX1 yX1_darkCells wsX1_darkCells) := goodIn_app (goodIn_of _ (by decide +kernel)) ggX5_both_X1_darkCells
set_option maxRecDepth 20000 in
theorem ggX5_both_X1_touches : GoodIn wsX5_both wsX1_touches := goodIn_r _ [33, 14, 34, 35, 36, 12, 37, 38, 39, 40, 41, 42, 52] (by decide +kernel) (by decide +kernel)
set_option maxRecDepth 20000 in
theorem gX5_both_X1_touches : GoodIn wsX5_both (wsV RX5 197 RX1 yX1_touches wsX1_touches) := goodIn_app (goodIn_of _ (by decide +kernel)) ggX5_both_X1_touches
theorem dX5_both_0 : decode cX5_both 0 = .ok (.iload_n 1, 1) := by decide +kernel
theorem dX5_both_1 : decode cX5_both 1 = .ok (.invokestatic 58, 3) := by decide +kernel
theorem dX5_both_4 : decode cX5_both 4 = .ok (.ifCond .eq 18, 3) := by decide +kernel
theorem dX5_both_7 : decode cX5_both 7 = .ok (.iload_n 2, 1) := by decide +kernel
theorem dX5_both_8 : decode cX5_both 8 = .ok (.invokestatic 58, 3) := by decide +kernel
theorem dX5_both_11 : decode cX5_both 11 = .ok (.ifCond .eq 11, 3) := by decide +kernel
theorem dX5_both_14 : decode cX5_both 14 = .ok (.iload_n 3, 1) := by decide +kernel
theorem dX5_both_15 : decode cX5_both 15 = .ok (.iconst 4, 1) := by decide +kernel
theorem dX5_both_16 : decode cX5_both 16 = .ok (.invokestatic 66, 3) := by decide +kernel
theorem dX5_both_19 : decode cX5_both 19 = .ok (.ifCond .ne 6, 3) := by decide +kernel
theorem dX5_both_22 : decode cX5_both 22 = .ok (.bipush (-2), 2) := by decide +kernel
theorem dX5_both_24 : decode cX5_both 24 = .ok (.ireturn, 1) := by decide +kernel
theorem dX5_both_25 : decode cX5_both 25 = .ok (.iload_n 3, 1) := by decide +kernel
theorem dX5_both_26 : decode cX5_both 26 = .ok (.tableswitch 99 0 2 #[26, 50, 83], 26) := by decide +kernel
theorem dX5_both_52 : decode cX5_both 52 = .ok (.aload_n 0, 1) := by decide +kernel
theorem dX5_both_53 : decode cX5_both 53 = .ok (.getfield 11, 3) := by decide +kernel
theorem dX5_both_56 : decode cX5_both 56 = .ok (.iload_n 1, 1) := by decide +kernel
theorem dX5_both_57 : decode cX5_both 57 = .ok (.aaload, 1) := by decide +kernel
theorem dX5_both_58 : decode cX5_both 58 = .ok (.aload_n 0, 1) := by decide +kernel
theorem dX5_both_59 : decode cX5_both 59 = .ok (.getfield 11, 3) := by decide +kernel
theorem dX5_both_62 : decode cX5_both 62 = .ok (.iload_n 2, 1) := by decide +kernel
theorem dX5_both_63 : decode cX5_both 63 = .ok (.aaload, 1) := by decide +kernel
theorem dX5_both_64 : decode cX5_both 64 = .ok (.invokevirtual 190, 3) := by decide +kernel
theorem dX5_both_67 : decode cX5_both 67 = .ok (.ifCond .eq 7, 3) := by decide +kernel
theorem dX5_both_70 : decode cX5_both 70 = .ok (.iconst 1, 1) := by decide +kernel
theorem dX5_both_71 : decode cX5_both 71 = .ok (.goto 4, 3) := by decide +kernel
theorem dX5_both_74 : decode cX5_both 74 = .ok (.iconst 0, 1) := by decide +kernel
theorem dX5_both_75 : decode cX5_both 75 = .ok (.ireturn, 1) := by decide +kernel
theorem dX5_both_76 : decode cX5_both 76 = .ok (.aload_n 0, 1) := by decide +kernel
theorem dX5_both_77 : decode cX5_both 77 = .ok (.getfield 11, 3) := by decide +kernel
theorem dX5_both_80 : decode cX5_both 80 = .ok (.iload_n 1, 1) := by decide +kernel
theorem dX5_both_81 : decode cX5_both 81 = .ok (.aaload, 1) := by decide +kernel
theorem dX5_both_82 : decode cX5_both 82 = .ok (.aload_n 0, 1) := by decide +kernel
theorem dX5_both_83 : decode cX5_both 83 = .ok (.getfield 11, 3) := by decide +kernel
theorem dX5_both_86 : decode cX5_both 86 = .ok (.iload_n 2, 1) := by decide +kernel
theorem dX5_both_87 : decode cX5_both 87 = .ok (.aaload, 1) := by decide +kernel
theorem dX5_both_88 : decode cX5_both 88 = .ok (.invokevirtual 194, 3) := by decide +kernel
theorem dX5_both_91 : decode cX5_both 91 = .ok (.aload_n 0, 1) := by decide +kernel
theorem dX5_both_92 : decode cX5_both 92 = .ok (.getfield 11, 3) := by decide +kernel
theorem dX5_both_95 : decode cX5_both 95 = .ok (.iload_n 1, 1) := by decide +kernel
theorem dX5_both_96 : decode cX5_both 96 = .ok (.aaload, 1) := by decide +kernel
theorem dX5_both_97 : decode cX5_both 97 = .ok (.invokevirtual 149, 3) := by decide +kernel
theorem dX5_both_100 : decode cX5_both 100 = .ok (.if_icmp .ne 7, 3) := by decide +kernel
theorem dX5_both_103 : decode cX5_both 103 = .ok (.iconst 1, 1) := by decide +kernel
theorem dX5_both_104 : decode cX5_both 104 = .ok (.goto 4, 3) := by decide +kernel
theorem dX5_both_107 : decode cX5_both 107 = .ok (.iconst 0, 1) := by decide +kernel
theorem dX5_both_108 : decode cX5_both 108 = .ok (.ireturn, 1) := by decide +kernel
theorem dX5_both_109 : decode cX5_both 109 = .ok (.aload_n 0, 1) := by decide +kernel
theorem dX5_both_110 : decode cX5_both 110 = .ok (.getfield 11, 3) := by decide +kernel
theorem dX5_both_113 : decode cX5_both 113 = .ok (.iload_n 1, 1) := by decide +kernel
theorem dX5_both_114 : decode cX5_both 114 = .ok (.aaload, 1) := by decide +kernel
theorem dX5_both_115 : decode cX5_both 115 = .ok (.aload_n 0, 1) := by decide +kernel
theorem dX5_both_116 : decode cX5_both 116 = .ok (.getfield 11, 3) := by decide +kernel
theorem dX5_both_119 : decode cX5_both 119 = .ok (.iload_n 2, 1) := by decide +kernel
theorem dX5_both_120 : decode cX5_both 120 = .ok (.aaload, 1) := by decide +kernel
theorem dX5_both_121 : decode cX5_both 121 = .ok (.invokevirtual 194, 3) := by decide +kernel
theorem dX5_both_124 : decode cX5_both 124 = .ok (.ireturn, 1) := by decide +kernel
theorem dX5_both_125 : decode cX5_both 125 = .ok (.aload_n 0, 1) := by decide +kernel
theorem dX5_both_126 : decode cX5_both 126 = .ok (.getfield 11, 3) := by decide +kernel
theorem dX5_both_129 : decode cX5_both 129 = .ok (.iload_n 1, 1) := by decide +kernel
theorem dX5_both_130 : decode cX5_both 130 = .ok (.aaload, 1) := by decide +kernel
theorem dX5_both_131 : decode cX5_both 131 = .ok (.aload_n 0, 1) := by decide +kernel
theorem dX5_both_132 : decode cX5_both 132 = .ok (.getfield 11, 3) := by decide +kernel
theorem dX5_both_135 : decode cX5_both 135 = .ok (.iload_n 2, 1) := by decide +kernel
theorem dX5_both_136 : decode cX5_both 136 = .ok (.aaload, 1) := by decide +kernel
theorem dX5_both_137 : decode cX5_both 137 = .ok (.invokevirtual 197, 3) := by decide +kernel
theorem dX5_both_140 : decode cX5_both 140 = .ok (.ifCond .eq 7, 3) := by decide +kernel
theorem dX5_both_143 : decode cX5_both 143 = .ok (.iconst 1, 1) := by decide +kernel
theorem dX5_both_144 : decode cX5_both 144 = .ok (.goto 4, 3) := by decide +kernel
theorem dX5_both_147 : decode cX5_both 147 = .ok (.iconst 0, 1) := by decide +kernel
theorem dX5_both_148 : decode cX5_both 148 = .ok (.ireturn, 1) := by decide +kernel
set_option maxRecDepth 20000 in
theorem ggX5_sheet_X5_isSheet : GoodIn wsX5_sheet wsX5_isSheet := goodIn_r _ [5, 6, 7, 4, 8] (by decide +kernel) (by decide +kernel)
set_option maxRecDepth 20000 in
theorem gX5_sheet_X5_isSheet : GoodIn wsX5_sheet (va_wsS RX5 118 yX5_isSheet wsX5_isSheet) := goodIn_app (goodIn_of _ (by decide +kernel)) ggX5_sheet_X5_isSheet
set_option maxRecDepth 20000 in
theorem ggX5_sheet_X5_within : GoodIn wsX5_sheet wsX5_within := goodIn_r _ [8] (by decide +kernel) (by decide +kernel)
set_option maxRecDepth 20000 in
theorem gX5_sheet_X5_within : GoodIn wsX5_sheet (va_wsS RX5 66 yX5_within wsX5_within) := goodIn_app (goodIn_of _ (by decide +kernel)) ggX5_sheet_X5_within
set_option maxRecDepth 20000 in
theorem ggX5_sheet_X5_found : GoodIn wsX5_sheet wsX5_found := goodIn_r _ [12, 13, 27, 28, 29, 30, 31, 32, 33, 34, 35] (by decide +kernel) (by decide +kernel)
set_option maxRecDepth 20000 in
theorem gX5_sheet_X5_found : GoodIn wsX5_sheet (wsV RX5 125 RX5 yX5_found wsX5_found) := goodIn_app (goodIn_of _ (by decide +kernel)) ggX5_sheet_X5_found
set_option maxRecDepth 20000 in
theorem ggX5_sheet_X3_begin : GoodIn wsX5_sheet wsX3_begin := goodIn_r _ [18, 19, 20, 21, 22, 23, 24, 25, 26, 36, 37, 38, 39] (by decide +kernel) (by decide +kernel)
set_option maxRecDepth 20000 in
theorem gX5_sheet_X3_begin : GoodIn wsX5_sheet (wsV RX5 200 RX3 yX3_begin wsX3_begin) := goodIn_app (goodIn_of _ (by decide +kernel)) ggX5_sheet_X3_begin
theorem dX5_sheet_0 : decode cX5_sheet 0 = .ok (.iload_n 1, 1) := by decide +kernel
theorem dX5_sheet_1 : decode cX5_sheet 1 = .ok (.invokestatic 118, 3) := by decide +kernel
theorem dX5_sheet_4 : decode cX5_sheet 4 = .ok (.ifCond .eq 17, 3) := by decide +kernel
theorem dX5_sheet_7 : decode cX5_sheet 7 = .ok (.iload_n 2, 1) := by decide +kernel
theorem dX5_sheet_8 : decode cX5_sheet 8 = .ok (.iconst 3, 1) := by decide +kernel
theorem dX5_sheet_9 : decode cX5_sheet 9 = .ok (.invokestatic 66, 3) := by decide +kernel
theorem dX5_sheet_12 : decode cX5_sheet 12 = .ok (.ifCond .eq 9, 3) := by decide +kernel
theorem dX5_sheet_15 : decode cX5_sheet 15 = .ok (.iload_n 3, 1) := by decide +kernel
theorem dX5_sheet_16 : decode cX5_sheet 16 = .ok (.bipush 60, 2) := by decide +kernel
theorem dX5_sheet_18 : decode cX5_sheet 18 = .ok (.if_icmp .le 6, 3) := by decide +kernel
theorem dX5_sheet_21 : decode cX5_sheet 21 = .ok (.bipush (-2), 2) := by decide +kernel
theorem dX5_sheet_23 : decode cX5_sheet 23 = .ok (.ireturn, 1) := by decide +kernel
theorem dX5_sheet_24 : decode cX5_sheet 24 = .ok (.iload_n 3, 1) := by decide +kernel
theorem dX5_sheet_25 : decode cX5_sheet 25 = .ok (.ifCond .ge 9, 3) := by decide +kernel
theorem dX5_sheet_28 : decode cX5_sheet 28 = .ok (.aload_n 0, 1) := by decide +kernel
theorem dX5_sheet_29 : decode cX5_sheet 29 = .ok (.iconst 5, 1) := by decide +kernel
theorem dX5_sheet_30 : decode cX5_sheet 30 = .ok (.invokevirtual 125, 3) := by decide +kernel
theorem dX5_sheet_33 : decode cX5_sheet 33 = .ok (.ireturn, 1) := by decide +kernel
theorem dX5_sheet_34 : decode cX5_sheet 34 = .ok (.aload_n 0, 1) := by decide +kernel
theorem dX5_sheet_35 : decode cX5_sheet 35 = .ok (.getfield 17, 3) := by decide +kernel
theorem dX5_sheet_38 : decode cX5_sheet 38 = .ok (.iload_n 1, 1) := by decide +kernel
theorem dX5_sheet_39 : decode cX5_sheet 39 = .ok (.aaload, 1) := by decide +kernel
theorem dX5_sheet_40 : decode cX5_sheet 40 = .ok (.iload_n 2, 1) := by decide +kernel
theorem dX5_sheet_41 : decode cX5_sheet 41 = .ok (.iload_n 3, 1) := by decide +kernel
theorem dX5_sheet_42 : decode cX5_sheet 42 = .ok (.invokevirtual 200, 3) := by decide +kernel
theorem dX5_sheet_45 : decode cX5_sheet 45 = .ok (.iload_n 3, 1) := by decide +kernel
theorem dX5_sheet_46 : decode cX5_sheet 46 = .ok (.ireturn, 1) := by decide +kernel
set_option maxRecDepth 20000 in
theorem ggX5_lose_X5_isSheet : GoodIn wsX5_lose wsX5_isSheet := goodIn_r _ [5, 6, 7, 4, 8] (by decide +kernel) (by decide +kernel)
set_option maxRecDepth 20000 in
theorem gX5_lose_X5_isSheet : GoodIn wsX5_lose (va_wsS RX5 118 yX5_isSheet wsX5_isSheet) := goodIn_app (goodIn_of _ (by decide +kernel)) ggX5_lose_X5_isSheet
set_option maxRecDepth 20000 in
theorem ggX5_lose_X5_found : GoodIn wsX5_lose wsX5_found := goodIn_r _ [12, 13, 14, 15, 16, 17, 18, 19, 20, 21, 22] (by decide +kernel) (by decide +kernel)
set_option maxRecDepth 20000 in
theorem gX5_lose_X5_found : GoodIn wsX5_lose (wsV RX5 125 RX5 yX5_found wsX5_found) := goodIn_app (goodIn_of _ (by decide +kernel)) ggX5_lose_X5_found
theorem dX5_lose_0 : decode cX5_lose 0 = .ok (.iload_n 1, 1) := by decide +kernel
theorem dX5_lose_1 : decode cX5_lose 1 = .ok (.invokestatic 118, 3) := by decide +kernel
theorem dX5_lose_4 : decode cX5_lose 4 = .ok (.ifCond .ne 6, 3) := by decide +kernel
theorem dX5_lose_7 : decode cX5_lose 7 = .ok (.bipush (-2), 2) := by decide +kernel
theorem dX5_lose_9 : decode cX5_lose 9 = .ok (.ireturn, 1) := by decide +kernel
theorem dX5_lose_10 : decode cX5_lose 10 = .ok (.aload_n 0, 1) := by decide +kernel
theorem dX5_lose_11 : decode cX5_lose 11 = .ok (.getfield 17, 3) := by decide +kernel
theorem dX5_lose_14 : decode cX5_lose 14 = .ok (.iload_n 1, 1) := by decide +kernel
theorem dX5_lose_15 : decode cX5_lose 15 = .ok (.aaload, 1) := by decide +kernel
theorem dX5_lose_16 : decode cX5_lose 16 = .ok (.getfield 121, 3) := by decide +kernel
theorem dX5_lose_19 : decode cX5_lose 19 = .ok (.ifCond .eq 9, 3) := by decide +kernel
theorem dX5_lose_22 : decode cX5_lose 22 = .ok (.aload_n 0, 1) := by decide +kernel
theorem dX5_lose_23 : decode cX5_lose 23 = .ok (.iconst 1, 1) := by decide +kernel
theorem dX5_lose_24 : decode cX5_lose 24 = .ok (.invokevirtual 125, 3) := by decide +kernel
theorem dX5_lose_27 : decode cX5_lose 27 = .ok (.ireturn, 1) := by decide +kernel
theorem dX5_lose_28 : decode cX5_lose 28 = .ok (.aload_n 0, 1) := by decide +kernel
theorem dX5_lose_29 : decode cX5_lose 29 = .ok (.getfield 17, 3) := by decide +kernel
theorem dX5_lose_32 : decode cX5_lose 32 = .ok (.iload_n 1, 1) := by decide +kernel
theorem dX5_lose_33 : decode cX5_lose 33 = .ok (.aaload, 1) := by decide +kernel
theorem dX5_lose_34 : decode cX5_lose 34 = .ok (.iconst 1, 1) := by decide +kernel
theorem dX5_lose_35 : decode cX5_lose 35 = .ok (.putfield 121, 3) := by decide +kernel
theorem dX5_lose_38 : decode cX5_lose 38 = .ok (.aload_n 0, 1) := by decide +kernel
theorem dX5_lose_39 : decode cX5_lose 39 = .ok (.getfield 17, 3) := by decide +kernel
theorem dX5_lose_42 : decode cX5_lose 42 = .ok (.iload_n 1, 1) := by decide +kernel
theorem dX5_lose_43 : decode cX5_lose 43 = .ok (.aaload, 1) := by decide +kernel
theorem dX5_lose_44 : decode cX5_lose 44 = .ok (.getfield 132, 3) := by decide +kernel
theorem dX5_lose_47 : decode cX5_lose 47 = .ok (.ireturn, 1) := by decide +kernel
set_option maxRecDepth 20000 in
theorem ggX5_lay_X5_isSheet : GoodIn wsX5_lay wsX5_isSheet := goodIn_r _ [5, 6, 7, 4, 8] (by decide +kernel) (by decide +kernel)
set_option maxRecDepth 20000 in
theorem gX5_lay_X5_isSheet : GoodIn wsX5_lay (va_wsS RX5 118 yX5_isSheet wsX5_isSheet) := goodIn_app (goodIn_of _ (by decide +kernel)) ggX5_lay_X5_isSheet
set_option maxRecDepth 20000 in
theorem ggX5_lay_X5_within : GoodIn wsX5_lay wsX5_within := goodIn_r _ [8] (by decide +kernel) (by decide +kernel)
set_option maxRecDepth 20000 in
theorem gX5_lay_X5_within : GoodIn wsX5_lay (va_wsS RX5 66 yX5_within wsX5_within) := goodIn_app (goodIn_of _ (by decide +kernel)) ggX5_lay_X5_within
set_option maxRecDepth 20000 in
theorem ggX5_lay_X5_findingAt : GoodIn wsX5_lay wsX5_findingAt := goodIn_r _ [11, 6, 7, 4, 8, 38, 39, 40, 41] (by decide +kernel) (by decide +kernel)
set_option maxRecDepth 20000 in
theorem gX5_lay_X5_findingAt : GoodIn wsX5_lay (va_wsS RX5 203 yX5_findingAt wsX5_findingAt) := goodIn_app (goodIn_of _ (by decide +kernel)) ggX5_lay_X5_findingAt
set_option maxRecDepth 20000 in
theorem ggX5_lay_X5_found : GoodIn wsX5_lay wsX5_found := goodIn_r _ [15, 16, 29, 30, 31, 32, 33, 34, 35, 36, 37] (by decide +kernel) (by decide +kernel)
set_option maxRecDepth 20000 in
theorem gX5_lay_X5_found : GoodIn wsX5_lay (wsV RX5 125 RX5 yX5_found wsX5_found) := goodIn_app (goodIn_of _ (by decide +kernel)) ggX5_lay_X5_found
set_option maxRecDepth 20000 in
theorem ggX5_lay_X3_setItem : GoodIn wsX5_lay wsX3_setItem := goodIn_r _ [21, 22, 23, 7, 4, 8, 24, 25, 26, 20, 27, 28, 38, 39, 40, 41] (by decide +kernel) (by decide +kernel)
set_option maxRecDepth 20000 in
theorem gX5_lay_X3_setItem : GoodIn wsX5_lay (wsV RX5 207 RX3 yX3_setItem wsX3_setItem) := goodIn_app (goodIn_of _ (by decide +kernel)) ggX5_lay_X3_setItem
theorem dX5_lay_0 : decode cX5_lay 0 = .ok (.iload_n 1, 1) := by decide +kernel
theorem dX5_lay_1 : decode cX5_lay 1 = .ok (.invokestatic 118, 3) := by decide +kernel
theorem dX5_lay_4 : decode cX5_lay 4 = .ok (.ifCond .eq 11, 3) := by decide +kernel
theorem dX5_lay_7 : decode cX5_lay 7 = .ok (.iload_n 2, 1) := by decide +kernel
theorem dX5_lay_8 : decode cX5_lay 8 = .ok (.iconst 3, 1) := by decide +kernel
theorem dX5_lay_9 : decode cX5_lay 9 = .ok (.invokestatic 66, 3) := by decide +kernel
theorem dX5_lay_12 : decode cX5_lay 12 = .ok (.ifCond .ne 6, 3) := by decide +kernel
theorem dX5_lay_15 : decode cX5_lay 15 = .ok (.bipush (-2), 2) := by decide +kernel
theorem dX5_lay_17 : decode cX5_lay 17 = .ok (.ireturn, 1) := by decide +kernel
theorem dX5_lay_18 : decode cX5_lay 18 = .ok (.aload_n 0, 1) := by decide +kernel
theorem dX5_lay_19 : decode cX5_lay 19 = .ok (.getfield 17, 3) := by decide +kernel
theorem dX5_lay_22 : decode cX5_lay 22 = .ok (.iload_n 1, 1) := by decide +kernel
theorem dX5_lay_23 : decode cX5_lay 23 = .ok (.aaload, 1) := by decide +kernel
theorem dX5_lay_24 : decode cX5_lay 24 = .ok (.iload_n 2, 1) := by decide +kernel
theorem dX5_lay_25 : decode cX5_lay 25 = .ok (.iload_n 3, 1) := by decide +kernel
theorem dX5_lay_26 : decode cX5_lay 26 = .ok (.invokestatic 203, 3) := by decide +kernel
theorem dX5_lay_29 : decode cX5_lay 29 = .ok (.istore 5, 2) := by decide +kernel
theorem dX5_lay_31 : decode cX5_lay 31 = .ok (.iload 5, 2) := by decide +kernel
theorem dX5_lay_33 : decode cX5_lay 33 = .ok (.ifCond .eq 10, 3) := by decide +kernel
theorem dX5_lay_36 : decode cX5_lay 36 = .ok (.aload_n 0, 1) := by decide +kernel
theorem dX5_lay_37 : decode cX5_lay 37 = .ok (.iload 5, 2) := by decide +kernel
theorem dX5_lay_39 : decode cX5_lay 39 = .ok (.invokevirtual 125, 3) := by decide +kernel
theorem dX5_lay_42 : decode cX5_lay 42 = .ok (.ireturn, 1) := by decide +kernel
theorem dX5_lay_43 : decode cX5_lay 43 = .ok (.aload_n 0, 1) := by decide +kernel
theorem dX5_lay_44 : decode cX5_lay 44 = .ok (.getfield 17, 3) := by decide +kernel
theorem dX5_lay_47 : decode cX5_lay 47 = .ok (.iload_n 1, 1) := by decide +kernel
theorem dX5_lay_48 : decode cX5_lay 48 = .ok (.aaload, 1) := by decide +kernel
theorem dX5_lay_49 : decode cX5_lay 49 = .ok (.iload_n 3, 1) := by decide +kernel
theorem dX5_lay_50 : decode cX5_lay 50 = .ok (.iload 4, 2) := by decide +kernel
theorem dX5_lay_52 : decode cX5_lay 52 = .ok (.invokevirtual 207, 3) := by decide +kernel
theorem dX5_lay_55 : decode cX5_lay 55 = .ok (.iconst 1, 1) := by decide +kernel
theorem dX5_lay_56 : decode cX5_lay 56 = .ok (.ireturn, 1) := by decide +kernel
set_option maxRecDepth 20000 in
theorem ggX5_get_X5_isSheet : GoodIn wsX5_get wsX5_isSheet := goodIn_r _ [7, 8, 9, 6, 10] (by decide +kernel) (by decide +kernel)
set_option maxRecDepth 20000 in
theorem gX5_get_X5_isSheet : GoodIn wsX5_get (va_wsS RX5 118 yX5_isSheet wsX5_isSheet) := goodIn_app (goodIn_of _ (by decide +kernel)) ggX5_get_X5_isSheet
set_option maxRecDepth 20000 in
theorem ggX5_get_X5_within : GoodIn wsX5_get wsX5_within := goodIn_r _ [10] (by decide +kernel) (by decide +kernel)
set_option maxRecDepth 20000 in
theorem gX5_get_X5_within : GoodIn wsX5_get (va_wsS RX5 66 yX5_within wsX5_within) := goodIn_app (goodIn_of _ (by decide +kernel)) ggX5_get_X5_within
set_option maxRecDepth 20000 in
theorem ggX5_get_X5_findingAt : GoodIn wsX5_get wsX5_findingAt := goodIn_r _ [13, 8, 9, 6, 10, 30, 31, 32, 33] (by decide +kernel) (by decide +kernel)
set_option maxRecDepth 20000 in
theorem gX5_get_X5_findingAt : GoodIn wsX5_get (va_wsS RX5 203 yX5_findingAt wsX5_findingAt) := goodIn_app (goodIn_of _ (by decide +kernel)) ggX5_get_X5_findingAt
set_option maxRecDepth 20000 in
theorem ggX5_get_X3_item : GoodIn wsX5_get wsX3_item := goodIn_r _ [18, 19, 20, 9, 6, 10, 30, 31, 32, 33] (by decide +kernel) (by decide +kernel)
set_option maxRecDepth 20000 in
theorem gX5_get_X3_item : GoodIn wsX5_get (wsV RX5 135 RX3 yX3_item wsX3_item) := goodIn_app (goodIn_of _ (by decide +kernel)) ggX5_get_X3_item
theorem dX5_get_0 : decode cX5_get 0 = .ok (.iload_n 1, 1) := by decide +kernel
theorem dX5_get_1 : decode cX5_get 1 = .ok (.invokestatic 118, 3) := by decide +kernel
theorem dX5_get_4 : decode cX5_get 4 = .ok (.ifCond .eq 11, 3) := by decide +kernel
theorem dX5_get_7 : decode cX5_get 7 = .ok (.iload_n 2, 1) := by decide +kernel
theorem dX5_get_8 : decode cX5_get 8 = .ok (.iconst 3, 1) := by decide +kernel
theorem dX5_get_9 : decode cX5_get 9 = .ok (.invokestatic 66, 3) := by decide +kernel
theorem dX5_get_12 : decode cX5_get 12 = .ok (.ifCond .ne 6, 3) := by decide +kernel
theorem dX5_get_15 : decode cX5_get 15 = .ok (.ldc 210, 2) := by decide +kernel
theorem dX5_get_17 : decode cX5_get 17 = .ok (.ireturn, 1) := by decide +kernel
theorem dX5_get_18 : decode cX5_get 18 = .ok (.aload_n 0, 1) := by decide +kernel
theorem dX5_get_19 : decode cX5_get 19 = .ok (.getfield 17, 3) := by decide +kernel
theorem dX5_get_22 : decode cX5_get 22 = .ok (.iload_n 1, 1) := by decide +kernel
theorem dX5_get_23 : decode cX5_get 23 = .ok (.aaload, 1) := by decide +kernel
theorem dX5_get_24 : decode cX5_get 24 = .ok (.iload_n 2, 1) := by decide +kernel
theorem dX5_get_25 : decode cX5_get 25 = .ok (.iload_n 3, 1) := by decide +kernel
theorem dX5_get_26 : decode cX5_get 26 = .ok (.invokestatic 203, 3) := by decide +kernel
theorem dX5_get_29 : decode cX5_get 29 = .ok (.istore 4, 2) := by decide +kernel
theorem dX5_get_31 : decode cX5_get 31 = .ok (.iload 4, 2) := by decide +kernel
theorem dX5_get_33 : decode cX5_get 33 = .ok (.ifCond .eq 12, 3) := by decide +kernel
theorem dX5_get_36 : decode cX5_get 36 = .ok (.aload_n 0, 1) := by decide +kernel
theorem dX5_get_37 : decode cX5_get 37 = .ok (.iload 4, 2) := by decide +kernel
theorem dX5_get_39 : decode cX5_get 39 = .ok (.putfield 53, 3) := by decide +kernel
theorem dX5_get_42 : decode cX5_get 42 = .ok (.ldc 210, 2) := by decide +kernel
theorem dX5_get_44 : decode cX5_get 44 = .ok (.ireturn, 1) := by decide +kernel
theorem dX5_get_45 : decode cX5_get 45 = .ok (.aload_n 0, 1) := by decide +kernel
theorem dX5_get_46 : decode cX5_get 46 = .ok (.getfield 17, 3) := by decide +kernel
theorem dX5_get_49 : decode cX5_get 49 = .ok (.iload_n 1, 1) := by decide +kernel
theorem dX5_get_50 : decode cX5_get 50 = .ok (.aaload, 1) := by decide +kernel
theorem dX5_get_51 : decode cX5_get 51 = .ok (.iload_n 3, 1) := by decide +kernel
theorem dX5_get_52 : decode cX5_get 52 = .ok (.invokevirtual 135, 3) := by decide +kernel
theorem dX5_get_55 : decode cX5_get 55 = .ok (.ireturn, 1) := by decide +kernel
set_option maxRecDepth 20000 in
theorem ggX5_findingAt_X5_within : GoodIn wsX5_findingAt wsX5_within := goodIn_r _ [4] (by decide +kernel) (by decide +kernel)
set_option maxRecDepth 20000 in
theorem gX5_findingAt_X5_within : GoodIn wsX5_findingAt (va_wsS RX5 66 yX5_within wsX5_within) := goodIn_app (goodIn_of _ (by decide +kernel)) ggX5_findingAt_X5_within
theorem dX5_findingAt_0 : decode cX5_findingAt 0 = .ok (.aload_n 0, 1) := by decide +kernel
theorem dX5_findingAt_1 : decode cX5_findingAt 1 = .ok (.getfield 121, 3) := by decide +kernel
theorem dX5_findingAt_4 : decode cX5_findingAt 4 = .ok (.ifCond .eq 5, 3) := by decide +kernel
theorem dX5_findingAt_7 : decode cX5_findingAt 7 = .ok (.iconst 1, 1) := by decide +kernel
theorem dX5_findingAt_8 : decode cX5_findingAt 8 = .ok (.ireturn, 1) := by decide +kernel
theorem dX5_findingAt_9 : decode cX5_findingAt 9 = .ok (.aload_n 0, 1) := by decide +kernel
theorem dX5_findingAt_10 : decode cX5_findingAt 10 = .ok (.getfield 211, 3) := by decide +kernel
theorem dX5_findingAt_13 : decode cX5_findingAt 13 = .ok (.iload_n 1, 1) := by decide +kernel
theorem dX5_findingAt_14 : decode cX5_findingAt 14 = .ok (.if_icmp .eq 5, 3) := by decide +kernel
theorem dX5_findingAt_17 : decode cX5_findingAt 17 = .ok (.iconst 3, 1) := by decide +kernel
theorem dX5_findingAt_18 : decode cX5_findingAt 18 = .ok (.ireturn, 1) := by decide +kernel
theorem dX5_findingAt_19 : decode cX5_findingAt 19 = .ok (.iload_n 2, 1) := by decide +kernel
theorem dX5_findingAt_20 : decode cX5_findingAt 20 = .ok (.aload_n 0, 1) := by decide +kernel
theorem dX5_findingAt_21 : decode cX5_findingAt 21 = .ok (.getfield 132, 3) := by decide +kernel
theorem dX5_findingAt_24 : decode cX5_findingAt 24 = .ok (.invokestatic 66, 3) := by decide +kernel
theorem dX5_findingAt_27 : decode cX5_findingAt 27 = .ok (.ifCond .eq 7, 3) := by decide +kernel
theorem dX5_findingAt_30 : decode cX5_findingAt 30 = .ok (.iconst 0, 1) := by decide +kernel
theorem dX5_findingAt_31 : decode cX5_findingAt 31 = .ok (.goto 4, 3) := by decide +kernel
theorem dX5_findingAt_34 : decode cX5_findingAt 34 = .ok (.iconst 2, 1) := by decide +kernel
theorem dX5_findingAt_35 : decode cX5_findingAt 35 = .ok (.ireturn, 1) := by decide +kernel
set_option maxRecDepth 20000 in
theorem ggX5_copy_X5_isSheet : GoodIn wsX5_copy wsX5_isSheet := goodIn_r _ [9, 10, 11, 8, 12] (by decide +kernel) (by decide +kernel)
set_option maxRecDepth 20000 in
theorem gX5_copy_X5_isSheet : GoodIn wsX5_copy (va_wsS RX5 118 yX5_isSheet wsX5_isSheet) := goodIn_app (goodIn_of _ (by decide +kernel)) ggX5_copy_X5_isSheet
set_option maxRecDepth 20000 in
theorem ggX5_copy_X5_found : GoodIn wsX5_copy wsX5_found := goodIn_r _ [16, 17, 24, 25, 26, 27, 28, 29, 30, 31, 32] (by decide +kernel) (by decide +kernel)
set_option maxRecDepth 20000 in
theorem gX5_copy_X5_found : GoodIn wsX5_copy (wsV RX5 125 RX5 yX5_found wsX5_found) := goodIn_app (goodIn_of _ (by decide +kernel)) ggX5_copy_X5_found
set_option maxRecDepth 20000 in
theorem ggX5_copy_X3_hasItems : GoodIn wsX5_copy wsX3_hasItems := goodIn_r _ [22, 23, 33, 34, 35, 36] (by decide +kernel) (by decide +kernel)
set_option maxRecDepth 20000 in
theorem gX5_copy_X3_hasItems : GoodIn wsX5_copy (wsV RX5 214 RX3 yX3_hasItems wsX3_hasItems) := goodIn_app (goodIn_of _ (by decide +kernel)) ggX5_copy_X3_hasItems
theorem dX5_copy_0 : decode cX5_copy 0 = .ok (.iload_n 1, 1) := by decide +kernel
theorem dX5_copy_1 : decode cX5_copy 1 = .ok (.invokestatic 118, 3) := by decide +kernel
theorem dX5_copy_4 : decode cX5_copy 4 = .ok (.ifCond .eq 10, 3) := by decide +kernel
theorem dX5_copy_7 : decode cX5_copy 7 = .ok (.iload_n 3, 1) := by decide +kernel
theorem dX5_copy_8 : decode cX5_copy 8 = .ok (.invokestatic 118, 3) := by decide +kernel
theorem dX5_copy_11 : decode cX5_copy 11 = .ok (.ifCond .ne 6, 3) := by decide +kernel
theorem dX5_copy_14 : decode cX5_copy 14 = .ok (.bipush (-2), 2) := by decide +kernel
theorem dX5_copy_16 : decode cX5_copy 16 = .ok (.ireturn, 1) := by decide +kernel
theorem dX5_copy_17 : decode cX5_copy 17 = .ok (.aload_n 0, 1) := by decide +kernel
theorem dX5_copy_18 : decode cX5_copy 18 = .ok (.getfield 17, 3) := by decide +kernel
theorem dX5_copy_21 : decode cX5_copy 21 = .ok (.iload_n 1, 1) := by decide +kernel
theorem dX5_copy_22 : decode cX5_copy 22 = .ok (.aaload, 1) := by decide +kernel
theorem dX5_copy_23 : decode cX5_copy 23 = .ok (.getfield 121, 3) := by decide +kernel
theorem dX5_copy_26 : decode cX5_copy 26 = .ok (.ifCond .ne 15, 3) := by decide +kernel
theorem dX5_copy_29 : decode cX5_copy 29 = .ok (.aload_n 0, 1) := by decide +kernel
theorem dX5_copy_30 : decode cX5_copy 30 = .ok (.getfield 17, 3) := by decide +kernel
theorem dX5_copy_33 : decode cX5_copy 33 = .ok (.iload_n 3, 1) := by decide +kernel
theorem dX5_copy_34 : decode cX5_copy 34 = .ok (.aaload, 1) := by decide +kernel
theorem dX5_copy_35 : decode cX5_copy 35 = .ok (.getfield 121, 3) := by decide +kernel
theorem dX5_copy_38 : decode cX5_copy 38 = .ok (.ifCond .eq 9, 3) := by decide +kernel
theorem dX5_copy_41 : decode cX5_copy 41 = .ok (.aload_n 0, 1) := by decide +kernel
theorem dX5_copy_42 : decode cX5_copy 42 = .ok (.iconst 1, 1) := by decide +kernel
theorem dX5_copy_43 : decode cX5_copy 43 = .ok (.invokevirtual 125, 3) := by decide +kernel
theorem dX5_copy_46 : decode cX5_copy 46 = .ok (.ireturn, 1) := by decide +kernel
theorem dX5_copy_47 : decode cX5_copy 47 = .ok (.aload_n 0, 1) := by decide +kernel
theorem dX5_copy_48 : decode cX5_copy 48 = .ok (.getfield 17, 3) := by decide +kernel
theorem dX5_copy_51 : decode cX5_copy 51 = .ok (.iload_n 1, 1) := by decide +kernel
theorem dX5_copy_52 : decode cX5_copy 52 = .ok (.aaload, 1) := by decide +kernel
theorem dX5_copy_53 : decode cX5_copy 53 = .ok (.getfield 211, 3) := by decide +kernel
theorem dX5_copy_56 : decode cX5_copy 56 = .ok (.aload_n 0, 1) := by decide +kernel
theorem dX5_copy_57 : decode cX5_copy 57 = .ok (.getfield 17, 3) := by decide +kernel
theorem dX5_copy_60 : decode cX5_copy 60 = .ok (.iload_n 3, 1) := by decide +kernel
theorem dX5_copy_61 : decode cX5_copy 61 = .ok (.aaload, 1) := by decide +kernel
theorem dX5_copy_62 : decode cX5_copy 62 = .ok (.getfield 211, 3) := by decide +kernel
theorem dX5_copy_65 : decode cX5_copy 65 = .ok (.if_icmp .eq 9, 3) := by decide +kernel
theorem dX5_copy_68 : decode cX5_copy 68 = .ok (.aload_n 0, 1) := by decide +kernel
theorem dX5_copy_69 : decode cX5_copy 69 = .ok (.iconst 4, 1) := by decide +kernel
theorem dX5_copy_70 : decode cX5_copy 70 = .ok (.invokevirtual 125, 3) := by decide +kernel
theorem dX5_copy_73 : decode cX5_copy 73 = .ok (.ireturn, 1) := by decide +kernel
theorem dX5_copy_74 : decode cX5_copy 74 = .ok (.aload_n 0, 1) := by decide +kernel
theorem dX5_copy_75 : decode cX5_copy 75 = .ok (.getfield 17, 3) := by decide +kernel
theorem dX5_copy_78 : decode cX5_copy 78 = .ok (.iload_n 1, 1) := by decide +kernel
theorem dX5_copy_79 : decode cX5_copy 79 = .ok (.aaload, 1) := by decide +kernel
theorem dX5_copy_80 : decode cX5_copy 80 = .ok (.iload_n 2, 1) := by decide +kernel
theorem dX5_copy_81 : decode cX5_copy 81 = .ok (.iload 5, 2) := by decide +kernel
theorem dX5_copy_83 : decode cX5_copy 83 = .ok (.invokevirtual 214, 3) := by decide +kernel
theorem dX5_copy_86 : decode cX5_copy 86 = .ok (.ifCond .eq 19, 3) := by decide +kernel
theorem dX5_copy_89 : decode cX5_copy 89 = .ok (.aload_n 0, 1) := by decide +kernel
theorem dX5_copy_90 : decode cX5_copy 90 = .ok (.getfield 17, 3) := by decide +kernel
theorem dX5_copy_93 : decode cX5_copy 93 = .ok (.iload_n 3, 1) := by decide +kernel
theorem dX5_copy_94 : decode cX5_copy 94 = .ok (.aaload, 1) := by decide +kernel
theorem dX5_copy_95 : decode cX5_copy 95 = .ok (.iload 4, 2) := by decide +kernel
theorem dX5_copy_97 : decode cX5_copy 97 = .ok (.iload 5, 2) := by decide +kernel
theorem dX5_copy_99 : decode cX5_copy 99 = .ok (.invokevirtual 214, 3) := by decide +kernel
theorem dX5_copy_102 : decode cX5_copy 102 = .ok (.ifCond .ne 9, 3) := by decide +kernel
theorem dX5_copy_105 : decode cX5_copy 105 = .ok (.aload_n 0, 1) := by decide +kernel
theorem dX5_copy_106 : decode cX5_copy 106 = .ok (.iconst 2, 1) := by decide +kernel
theorem dX5_copy_107 : decode cX5_copy 107 = .ok (.invokevirtual 125, 3) := by decide +kernel
theorem dX5_copy_110 : decode cX5_copy 110 = .ok (.ireturn, 1) := by decide +kernel
theorem dX5_copy_111 : decode cX5_copy 111 = .ok (.aload_n 0, 1) := by decide +kernel
theorem dX5_copy_112 : decode cX5_copy 112 = .ok (.getfield 17, 3) := by decide +kernel
theorem dX5_copy_115 : decode cX5_copy 115 = .ok (.iload_n 1, 1) := by decide +kernel
theorem dX5_copy_116 : decode cX5_copy 116 = .ok (.aaload, 1) := by decide +kernel
theorem dX5_copy_117 : decode cX5_copy 117 = .ok (.getfield 217, 3) := by decide +kernel
theorem dX5_copy_120 : decode cX5_copy 120 = .ok (.iload_n 2, 1) := by decide +kernel
theorem dX5_copy_121 : decode cX5_copy 121 = .ok (.aload_n 0, 1) := by decide +kernel
theorem dX5_copy_122 : decode cX5_copy 122 = .ok (.getfield 17, 3) := by decide +kernel
theorem dX5_copy_125 : decode cX5_copy 125 = .ok (.iload_n 3, 1) := by decide +kernel
theorem dX5_copy_126 : decode cX5_copy 126 = .ok (.aaload, 1) := by decide +kernel
theorem dX5_copy_127 : decode cX5_copy 127 = .ok (.getfield 217, 3) := by decide +kernel
theorem dX5_copy_130 : decode cX5_copy 130 = .ok (.iload 4, 2) := by decide +kernel
theorem dX5_copy_132 : decode cX5_copy 132 = .ok (.iload 5, 2) := by decide +kernel
theorem dX5_copy_134 : decode cX5_copy 134 = .ok (.invokestatic 221, 3) := by decide +kernel
theorem dX5_copy_137 : decode cX5_copy 137 = .ok (.iconst 1, 1) := by decide +kernel
theorem dX5_copy_138 : decode cX5_copy 138 = .ok (.ireturn, 1) := by decide +kernel
set_option maxRecDepth 20000 in
theorem ggX5_write_X5_isMask : GoodIn wsX5_write wsX5_isMask := goodIn_r _ [14, 15, 16, 13, 17] (by decide +kernel) (by decide +kernel)
set_option maxRecDepth 20000 in
theorem gX5_write_X5_isMask : GoodIn wsX5_write (va_wsS RX5 58 yX5_isMask wsX5_isMask) := goodIn_app (goodIn_of _ (by decide +kernel)) ggX5_write_X5_isMask
set_option maxRecDepth 20000 in
theorem ggX5_write_X5_within : GoodIn wsX5_write wsX5_within := goodIn_r _ [17] (by decide +kernel) (by decide +kernel)
set_option maxRecDepth 20000 in
theorem gX5_write_X5_within : GoodIn wsX5_write (va_wsS RX5 66 yX5_within wsX5_within) := goodIn_app (goodIn_of _ (by decide +kernel)) ggX5_write_X5_within
set_option maxRecDepth 20000 in
theorem ggX5_write_X5_isSheet : GoodIn wsX5_write wsX5_isSheet := goodIn_r _ [20, 15, 16, 13, 17] (by decide +kernel) (by decide +kernel)
set_option maxRecDepth 20000 in
theorem gX5_write_X5_isSheet : GoodIn wsX5_write (va_wsS RX5 118 yX5_isSheet wsX5_isSheet) := goodIn_app (goodIn_of _ (by decide +kernel)) ggX5_write_X5_isSheet
set_option maxRecDepth 20000 in
theorem ggX5_write_X5_found : GoodIn wsX5_write wsX5_found := goodIn_r _ [24, 25, 79, 80, 81, 82, 83, 84, 85, 86, 87] (by decide +kernel) (by decide +kernel)
set_option maxRecDepth 20000 in
theorem gX5_write_X5_found : GoodIn wsX5_write (wsV RX5 125 RX5 yX5_found wsX5_found) := goodIn_app (goodIn_of _ (by decide +kernel)) ggX5_write_X5_found
set_option maxRecDepth 20000 in
theorem ggX5_write_X4_look : GoodIn wsX5_write wsX4_look := goodIn_r _ [30, 31, 32, 33, 34, 35, 36, 37, 38, 39, 40, 41, 42, 43, 44, 45, 46, 47, 29, 48, 49, 9, 6, 10, 50, 51, 52, 53, 54, 55, 56, 57, 58, 59, 60, 61, 62, 16, 13, 17, 92, 93, 94, 95, 96, 97, 98] (by decide +kernel) (by decide +kernel)
set_option maxRecDepth 20000 in
theorem gX5_write_X4_look : GoodIn wsX5_write (wsV RX5 159 RX4 yX4_look wsX4_look) := goodIn_app (goodIn_of _ (by decide +kernel)) ggX5_write_X4_look
set_option maxRecDepth 20000 in
theorem ggX5_write_X4_sign : GoodIn wsX5_write wsX4_sign := goodIn_r _ [66, 32, 62, 16, 13, 17, 92, 93, 94, 95, 96, 97] (by decide +kernel) (by decide +kernel)
set_option maxRecDepth 20000 in
theorem gX5_write_X4_sign : GoodIn wsX5_write (wsV RX5 172 RX4 yX4_sign wsX4_sign) := goodIn_app (goodIn_of _ (by decide +kernel)) ggX5_write_X4_sign
set_option maxRecDepth 20000 in
theorem ggX5_write_X3_setItem : GoodIn wsX5_write wsX3_setItem := goodIn_r _ [71, 72, 73, 16, 13, 17, 74, 75, 76, 70, 77, 78, 88, 89, 90, 91] (by decide +kernel) (by decide +kernel)
set_option maxRecDepth 20000 in
theorem gX5_write_X3_setItem : GoodIn wsX5_write (wsV RX5 207 RX3 yX3_setItem wsX3_setItem) := goodIn_app (goodIn_of _ (by decide +kernel)) ggX5_write_X3_setItem
theorem dX5_write_0 : decode cX5_write 0 = .ok (.iload_n 1, 1) := by decide +kernel
theorem dX5_write_1 : decode cX5_write 1 = .ok (.invokestatic 58, 3) := by decide +kernel
theorem dX5_write_4 : decode cX5_write 4 = .ok (.ifCond .eq 20, 3) := by decide +kernel
theorem dX5_write_7 : decode cX5_write 7 = .ok (.iload_n 2, 1) := by decide +kernel
theorem dX5_write_8 : decode cX5_write 8 = .ok (.sipush 341, 3) := by decide +kernel
theorem dX5_write_11 : decode cX5_write 11 = .ok (.invokestatic 66, 3) := by decide +kernel
theorem dX5_write_14 : decode cX5_write 14 = .ok (.ifCond .eq 10, 3) := by decide +kernel
theorem dX5_write_17 : decode cX5_write 17 = .ok (.iload_n 3, 1) := by decide +kernel
theorem dX5_write_18 : decode cX5_write 18 = .ok (.invokestatic 118, 3) := by decide +kernel
theorem dX5_write_21 : decode cX5_write 21 = .ok (.ifCond .ne 6, 3) := by decide +kernel
theorem dX5_write_24 : decode cX5_write 24 = .ok (.bipush (-2), 2) := by decide +kernel
theorem dX5_write_26 : decode cX5_write 26 = .ok (.ireturn, 1) := by decide +kernel
theorem dX5_write_27 : decode cX5_write 27 = .ok (.aload_n 0, 1) := by decide +kernel
theorem dX5_write_28 : decode cX5_write 28 = .ok (.getfield 17, 3) := by decide +kernel
theorem dX5_write_31 : decode cX5_write 31 = .ok (.iload_n 3, 1) := by decide +kernel
theorem dX5_write_32 : decode cX5_write 32 = .ok (.aaload, 1) := by decide +kernel
theorem dX5_write_33 : decode cX5_write 33 = .ok (.getfield 121, 3) := by decide +kernel
theorem dX5_write_36 : decode cX5_write 36 = .ok (.ifCond .eq 9, 3) := by decide +kernel
theorem dX5_write_39 : decode cX5_write 39 = .ok (.aload_n 0, 1) := by decide +kernel
theorem dX5_write_40 : decode cX5_write 40 = .ok (.iconst 1, 1) := by decide +kernel
theorem dX5_write_41 : decode cX5_write 41 = .ok (.invokevirtual 125, 3) := by decide +kernel
theorem dX5_write_44 : decode cX5_write 44 = .ok (.ireturn, 1) := by decide +kernel
theorem dX5_write_45 : decode cX5_write 45 = .ok (.aload_n 0, 1) := by decide +kernel
theorem dX5_write_46 : decode cX5_write 46 = .ok (.getfield 49, 3) := by decide +kernel
theorem dX5_write_49 : decode cX5_write 49 = .ok (.aload_n 0, 1) := by decide +kernel
theorem dX5_write_50 : decode cX5_write 50 = .ok (.getfield 11, 3) := by decide +kernel
theorem dX5_write_53 : decode cX5_write 53 = .ok (.iload_n 1, 1) := by decide +kernel
theorem dX5_write_54 : decode cX5_write 54 = .ok (.aaload, 1) := by decide +kernel
theorem dX5_write_55 : decode cX5_write 55 = .ok (.invokevirtual 159, 3) := by decide +kernel
theorem dX5_write_58 : decode cX5_write 58 = .ok (.iconst 0, 1) := by decide +kernel
theorem dX5_write_59 : decode cX5_write 59 = .ok (.aload_n 0, 1) := by decide +kernel
theorem dX5_write_60 : decode cX5_write 60 = .ok (.getfield 17, 3) := by decide +kernel
theorem dX5_write_63 : decode cX5_write 63 = .ok (.iload_n 3, 1) := by decide +kernel
theorem dX5_write_64 : decode cX5_write 64 = .ok (.aaload, 1) := by decide +kernel
theorem dX5_write_65 : decode cX5_write 65 = .ok (.getfield 132, 3) := by decide +kernel
theorem dX5_write_68 : decode cX5_write 68 = .ok (.aload_n 0, 1) := by decide +kernel
theorem dX5_write_69 : decode cX5_write 69 = .ok (.getfield 49, 3) := by decide +kernel
theorem dX5_write_72 : decode cX5_write 72 = .ok (.getfield 160, 3) := by decide +kernel
theorem dX5_write_75 : decode cX5_write 75 = .ok (.iload_n 2, 1) := by decide +kernel
theorem dX5_write_76 : decode cX5_write 76 = .ok (.isub, 1) := by decide +kernel
theorem dX5_write_77 : decode cX5_write 77 = .ok (.invokestatic 227, 3) := by decide +kernel
theorem dX5_write_80 : decode cX5_write 80 = .ok (.invokestatic 232, 3) := by decide +kernel
theorem dX5_write_83 : decode cX5_write 83 = .ok (.istore 4, 2) := by decide +kernel
theorem dX5_write_85 : decode cX5_write 85 = .ok (.iconst 0, 1) := by decide +kernel
theorem dX5_write_86 : decode cX5_write 86 = .ok (.istore 5, 2) := by decide +kernel
theorem dX5_write_88 : decode cX5_write 88 = .ok (.iload 5, 2) := by decide +kernel
theorem dX5_write_90 : decode cX5_write 90 = .ok (.iload 4, 2) := by decide +kernel
theorem dX5_write_92 : decode cX5_write 92 = .ok (.if_icmp .ge 31, 3) := by decide +kernel
theorem dX5_write_95 : decode cX5_write 95 = .ok (.aload_n 0, 1) := by decide +kernel
theorem dX5_write_96 : decode cX5_write 96 = .ok (.getfield 17, 3) := by decide +kernel
theorem dX5_write_99 : decode cX5_write 99 = .ok (.iload_n 3, 1) := by decide +kernel
theorem dX5_write_100 : decode cX5_write 100 = .ok (.aaload, 1) := by decide +kernel
theorem dX5_write_101 : decode cX5_write 101 = .ok (.iload 5, 2) := by decide +kernel
theorem dX5_write_103 : decode cX5_write 103 = .ok (.aload_n 0, 1) := by decide +kernel
theorem dX5_write_104 : decode cX5_write 104 = .ok (.getfield 49, 3) := by decide +kernel
theorem dX5_write_107 : decode cX5_write 107 = .ok (.iload_n 2, 1) := by decide +kernel
theorem dX5_write_108 : decode cX5_write 108 = .ok (.iload 5, 2) := by decide +kernel
theorem dX5_write_110 : decode cX5_write 110 = .ok (.iadd, 1) := by decide +kernel
theorem dX5_write_111 : decode cX5_write 111 = .ok (.invokevirtual 172, 3) := by decide +kernel
theorem dX5_write_114 : decode cX5_write 114 = .ok (.invokevirtual 207, 3) := by decide +kernel
theorem dX5_write_117 : decode cX5_write 117 = .ok (.iinc 5 1, 3) := by decide +kernel
theorem dX5_write_120 : decode cX5_write 120 = .ok (.goto (-32), 3) := by decide +kernel
theorem dX5_write_123 : decode cX5_write 123 = .ok (.iload 4, 2) := by decide +kernel
theorem dX5_write_125 : decode cX5_write 125 = .ok (.ireturn, 1) := by decide +kernel
set_option maxRecDepth 20000 in
theorem ggX5_count_X1_darkCells : GoodIn wsX5_count wsX1_darkCells := goodIn_r _ [8, 9, 10, 11, 12, 13, 14, 15, 16, 131] (by decide +kernel) (by decide +kernel)
set_option maxRecDepth 20000 in
theorem gX5_count_X1_darkCells : GoodIn wsX5_count (wsV RX5 149 RX1 yX1_darkCells wsX1_darkCells) := goodIn_app (goodIn_of _ (by decide +kernel)) ggX5_count_X1_darkCells
set_option maxRecDepth 20000 in
theorem ggX5_count_X5_blocksOfAll : GoodIn wsX5_count wsX5_blocksOfAll := goodIn_r _ [21, 22, 1, 23, 24, 25, 26, 27, 28, 29, 30, 31, 32, 33, 34, 35, 7, 36, 9, 37, 38, 39, 40, 41, 42, 43, 44, 45, 46, 47, 48, 49, 50, 51, 52, 53, 54, 55, 56, 57, 58, 59, 60, 61, 20, 62, 118, 119, 120, 121, 122, 123, 124, 125, 126, 132, 133, 134, 135, 136, 137, 131] (by decide +kernel) (by decide +kernel)
set_option maxRecDepth 20000 in
theorem gX5_count_X5_blocksOfAll : GoodIn wsX5_count (wsV RX5 235 RX5 yX5_blocksOfAll wsX5_blocksOfAll) := goodIn_app (goodIn_of _ (by decide +kernel)) ggX5_count_X5_blocksOfAll
set_option maxRecDepth 20000 in
theorem ggX5_count_X5_partsOfAll : GoodIn wsX5_count wsX5_partsOfAll := goodIn_r _ [66, 67, 1, 68, 69, 70, 71, 72, 73, 74, 75, 76, 34, 35, 7, 36, 9, 77, 38, 39, 40, 78, 79, 80, 81, 82, 83, 84, 85, 86, 87, 88, 89, 90, 91, 92, 93, 94, 95, 96, 97, 98, 99, 100, 101, 102, 103, 104, 105, 106, 107, 108, 109, 46, 110, 111, 45, 47, 118, 119, 120, 121, 122, 123, 124, 125, 126, 138, 139, 140, 141, 142, 131] (by decide +kernel) (by decide +kernel)
set_option maxRecDepth 20000 in
theorem gX5_count_X5_partsOfAll : GoodIn wsX5_count (wsV RX5 238 RX5 yX5_partsOfAll wsX5_partsOfAll) := goodIn_app (goodIn_of _ (by decide +kernel)) ggX5_count_X5_partsOfAll
set_option maxRecDepth 20000 in
theorem ggX5_count_X5_cellsDarkInAll : GoodIn wsX5_count wsX5_cellsDarkInAll := goodIn_r _ [115, 1, 116, 53, 54, 7, 55, 9, 117, 11, 12, 13, 14, 15, 16, 118, 119, 120, 121, 122, 123, 124, 125, 126, 131] (by decide +kernel) (by decide +kernel)
set_option maxRecDepth 20000 in
theorem gX5_count_X5_cellsDarkInAll : GoodIn wsX5_count (wsV RX5 241 RX5 yX5_cellsDarkInAll wsX5_cellsDarkInAll) := goodIn_app (goodIn_of _ (by decide +kernel)) ggX5_count_X5_cellsDarkInAll
theorem dX5_count_0 : decode cX5_count 0 = .ok (.iload_n 1, 1) := by decide +kernel
theorem dX5_count_1 : decode cX5_count 1 = .ok (.tableswitch 89 0 8 #[51, 51, 51, 51, 61, 66, 71, 79, 84], 51) := by decide +kernel
theorem dX5_count_52 : decode cX5_count 52 = .ok (.aload_n 0, 1) := by decide +kernel
theorem dX5_count_53 : decode cX5_count 53 = .ok (.getfield 11, 3) := by decide +kernel
theorem dX5_count_56 : decode cX5_count 56 = .ok (.iload_n 1, 1) := by decide +kernel
theorem dX5_count_57 : decode cX5_count 57 = .ok (.aaload, 1) := by decide +kernel
theorem dX5_count_58 : decode cX5_count 58 = .ok (.invokevirtual 149, 3) := by decide +kernel
theorem dX5_count_61 : decode cX5_count 61 = .ok (.ireturn, 1) := by decide +kernel
theorem dX5_count_62 : decode cX5_count 62 = .ok (.aload_n 0, 1) := by decide +kernel
theorem dX5_count_63 : decode cX5_count 63 = .ok (.invokevirtual 235, 3) := by decide +kernel
theorem dX5_count_66 : decode cX5_count 66 = .ok (.ireturn, 1) := by decide +kernel
theorem dX5_count_67 : decode cX5_count 67 = .ok (.aload_n 0, 1) := by decide +kernel
theorem dX5_count_68 : decode cX5_count 68 = .ok (.invokevirtual 238, 3) := by decide +kernel
theorem dX5_count_71 : decode cX5_count 71 = .ok (.ireturn, 1) := by decide +kernel
theorem dX5_count_72 : decode cX5_count 72 = .ok (.aload_n 0, 1) := by decide +kernel
theorem dX5_count_73 : decode cX5_count 73 = .ok (.getfield 24, 3) := by decide +kernel
theorem dX5_count_76 : decode cX5_count 76 = .ok (.getfield 138, 3) := by decide +kernel
theorem dX5_count_79 : decode cX5_count 79 = .ok (.ireturn, 1) := by decide +kernel
theorem dX5_count_80 : decode cX5_count 80 = .ok (.aload_n 0, 1) := by decide +kernel
theorem dX5_count_81 : decode cX5_count 81 = .ok (.invokevirtual 241, 3) := by decide +kernel
theorem dX5_count_84 : decode cX5_count 84 = .ok (.ireturn, 1) := by decide +kernel
theorem dX5_count_85 : decode cX5_count 85 = .ok (.aload_n 0, 1) := by decide +kernel
theorem dX5_count_86 : decode cX5_count 86 = .ok (.getfield 53, 3) := by decide +kernel
theorem dX5_count_89 : decode cX5_count 89 = .ok (.ireturn, 1) := by decide +kernel
theorem dX5_count_90 : decode cX5_count 90 = .ok (.bipush (-2), 2) := by decide +kernel
theorem dX5_count_92 : decode cX5_count 92 = .ok (.ireturn, 1) := by decide +kernel
set_option maxRecDepth 20000 in
theorem ggX5_blocksOfAll_X4_look : GoodIn wsX5_blocksOfAll wsX4_look := goodIn_r _ [7, 8, 9, 10, 11, 12, 13, 14, 15, 16, 17, 18, 19, 20, 21, 22, 23, 24, 6, 25, 26, 27, 28, 29, 30, 31, 32, 33, 34, 35, 36, 37, 38, 39, 40, 41, 42, 43, 44, 45, 55, 56, 57, 58, 59, 60, 61] (by decide +kernel) (by decide +kernel)
set_option maxRecDepth 20000 in
theorem gX5_blocksOfAll_X4_look : GoodIn wsX5_blocksOfAll (wsV RX5 159 RX4 yX4_look wsX4_look) := goodIn_app (goodIn_of _ (by decide +kernel)) ggX5_blocksOfAll_X4_look
theorem dX5_blocksOfAll_0 : decode cX5_blocksOfAll 0 = .ok (.iconst 0, 1) := by decide +kernel
theorem dX5_blocksOfAll_1 : decode cX5_blocksOfAll 1 = .ok (.istore_n 1, 1) := by decide +kernel
theorem dX5_blocksOfAll_2 : decode cX5_blocksOfAll 2 = .ok (.iconst 0, 1) := by decide +kernel
theorem dX5_blocksOfAll_3 : decode cX5_blocksOfAll 3 = .ok (.istore_n 2, 1) := by decide +kernel
theorem dX5_blocksOfAll_4 : decode cX5_blocksOfAll 4 = .ok (.iload_n 2, 1) := by decide +kernel
theorem dX5_blocksOfAll_5 : decode cX5_blocksOfAll 5 = .ok (.iconst 4, 1) := by decide +kernel
theorem dX5_blocksOfAll_6 : decode cX5_blocksOfAll 6 = .ok (.if_icmp .ge 40, 3) := by decide +kernel
theorem dX5_blocksOfAll_9 : decode cX5_blocksOfAll 9 = .ok (.aload_n 0, 1) := by decide +kernel
theorem dX5_blocksOfAll_10 : decode cX5_blocksOfAll 10 = .ok (.getfield 49, 3) := by decide +kernel
theorem dX5_blocksOfAll_13 : decode cX5_blocksOfAll 13 = .ok (.aload_n 0, 1) := by decide +kernel
theorem dX5_blocksOfAll_14 : decode cX5_blocksOfAll 14 = .ok (.getfield 11, 3) := by decide +kernel
theorem dX5_blocksOfAll_17 : decode cX5_blocksOfAll 17 = .ok (.iload_n 2, 1) := by decide +kernel
theorem dX5_blocksOfAll_18 : decode cX5_blocksOfAll 18 = .ok (.aaload, 1) := by decide +kernel
theorem dX5_blocksOfAll_19 : decode cX5_blocksOfAll 19 = .ok (.invokevirtual 159, 3) := by decide +kernel
theorem dX5_blocksOfAll_22 : decode cX5_blocksOfAll 22 = .ok (.iload_n 1, 1) := by decide +kernel
theorem dX5_blocksOfAll_23 : decode cX5_blocksOfAll 23 = .ok (.aload_n 0, 1) := by decide +kernel
theorem dX5_blocksOfAll_24 : decode cX5_blocksOfAll 24 = .ok (.getfield 49, 3) := by decide +kernel
theorem dX5_blocksOfAll_27 : decode cX5_blocksOfAll 27 = .ok (.getfield 160, 3) := by decide +kernel
theorem dX5_blocksOfAll_30 : decode cX5_blocksOfAll 30 = .ok (.aload_n 0, 1) := by decide +kernel
theorem dX5_blocksOfAll_31 : decode cX5_blocksOfAll 31 = .ok (.getfield 49, 3) := by decide +kernel
theorem dX5_blocksOfAll_34 : decode cX5_blocksOfAll 34 = .ok (.getfield 163, 3) := by decide +kernel
theorem dX5_blocksOfAll_37 : decode cX5_blocksOfAll 37 = .ok (.isub, 1) := by decide +kernel
theorem dX5_blocksOfAll_38 : decode cX5_blocksOfAll 38 = .ok (.iadd, 1) := by decide +kernel
theorem dX5_blocksOfAll_39 : decode cX5_blocksOfAll 39 = .ok (.istore_n 1, 1) := by decide +kernel
theorem dX5_blocksOfAll_40 : decode cX5_blocksOfAll 40 = .ok (.iinc 2 1, 3) := by decide +kernel
theorem dX5_blocksOfAll_43 : decode cX5_blocksOfAll 43 = .ok (.goto (-39), 3) := by decide +kernel
theorem dX5_blocksOfAll_46 : decode cX5_blocksOfAll 46 = .ok (.iload_n 1, 1) := by decide +kernel
theorem dX5_blocksOfAll_47 : decode cX5_blocksOfAll 47 = .ok (.ireturn, 1) := by decide +kernel
set_option maxRecDepth 20000 in
theorem ggX5_partsOfAll_X2_look : GoodIn wsX5_partsOfAll wsX2_look := goodIn_r _ [7, 8, 9, 10, 11, 12, 13, 14, 15, 16, 17, 18, 19, 20, 21, 22, 23, 24, 25, 26, 27, 28, 29, 30, 31, 6, 32, 33, 34, 35, 36, 37, 38, 39, 40, 41, 42, 43, 44, 45, 46, 47, 48, 49, 50, 51, 52, 53, 54, 55, 56, 57, 67, 68, 69, 70, 71, 72] (by decide +kernel) (by decide +kernel)
set_option maxRecDepth 20000 in
theorem gX5_partsOfAll_X2_look : GoodIn wsX5_partsOfAll (wsV RX5 108 RX2 yX2_look wsX2_look) := goodIn_app (goodIn_of _ (by decide +kernel)) ggX5_partsOfAll_X2_look
theorem dX5_partsOfAll_0 : decode cX5_partsOfAll 0 = .ok (.iconst 0, 1) := by decide +kernel
theorem dX5_partsOfAll_1 : decode cX5_partsOfAll 1 = .ok (.istore_n 1, 1) := by decide +kernel
theorem dX5_partsOfAll_2 : decode cX5_partsOfAll 2 = .ok (.iconst 0, 1) := by decide +kernel
theorem dX5_partsOfAll_3 : decode cX5_partsOfAll 3 = .ok (.istore_n 2, 1) := by decide +kernel
theorem dX5_partsOfAll_4 : decode cX5_partsOfAll 4 = .ok (.iload_n 2, 1) := by decide +kernel
theorem dX5_partsOfAll_5 : decode cX5_partsOfAll 5 = .ok (.iconst 4, 1) := by decide +kernel
theorem dX5_partsOfAll_6 : decode cX5_partsOfAll 6 = .ok (.if_icmp .ge 32, 3) := by decide +kernel
theorem dX5_partsOfAll_9 : decode cX5_partsOfAll 9 = .ok (.aload_n 0, 1) := by decide +kernel
theorem dX5_partsOfAll_10 : decode cX5_partsOfAll 10 = .ok (.getfield 39, 3) := by decide +kernel
theorem dX5_partsOfAll_13 : decode cX5_partsOfAll 13 = .ok (.aload_n 0, 1) := by decide +kernel
theorem dX5_partsOfAll_14 : decode cX5_partsOfAll 14 = .ok (.getfield 11, 3) := by decide +kernel
theorem dX5_partsOfAll_17 : decode cX5_partsOfAll 17 = .ok (.iload_n 2, 1) := by decide +kernel
theorem dX5_partsOfAll_18 : decode cX5_partsOfAll 18 = .ok (.aaload, 1) := by decide +kernel
theorem dX5_partsOfAll_19 : decode cX5_partsOfAll 19 = .ok (.invokevirtual 108, 3) := by decide +kernel
theorem dX5_partsOfAll_22 : decode cX5_partsOfAll 22 = .ok (.iload_n 1, 1) := by decide +kernel
theorem dX5_partsOfAll_23 : decode cX5_partsOfAll 23 = .ok (.aload_n 0, 1) := by decide +kernel
theorem dX5_partsOfAll_24 : decode cX5_partsOfAll 24 = .ok (.getfield 39, 3) := by decide +kernel
theorem dX5_partsOfAll_27 : decode cX5_partsOfAll 27 = .ok (.getfield 175, 3) := by decide +kernel
theorem dX5_partsOfAll_30 : decode cX5_partsOfAll 30 = .ok (.iadd, 1) := by decide +kernel
theorem dX5_partsOfAll_31 : decode cX5_partsOfAll 31 = .ok (.istore_n 1, 1) := by decide +kernel
theorem dX5_partsOfAll_32 : decode cX5_partsOfAll 32 = .ok (.iinc 2 1, 3) := by decide +kernel
theorem dX5_partsOfAll_35 : decode cX5_partsOfAll 35 = .ok (.goto (-31), 3) := by decide +kernel
theorem dX5_partsOfAll_38 : decode cX5_partsOfAll 38 = .ok (.iload_n 1, 1) := by decide +kernel
theorem dX5_partsOfAll_39 : decode cX5_partsOfAll 39 = .ok (.ireturn, 1) := by decide +kernel
set_option maxRecDepth 20000 in
theorem ggX5_cellsDarkInAll_X1_row : GoodIn wsX5_cellsDarkInAll wsX1_row := goodIn_r _ [6, 7, 24] (by decide +kernel) (by decide +kernel)
set_option maxRecDepth 20000 in
theorem gX5_cellsDarkInAll_X1_row : GoodIn wsX5_cellsDarkInAll (wsV RX5 86 RX1 yX1_row wsX1_row) := goodIn_app (goodIn_of _ (by decide +kernel)) ggX5_cellsDarkInAll_X1_row
set_option maxRecDepth 20000 in
theorem ggX5_cellsDarkInAll_J6_bitCount_0f7a4 : GoodIn wsX5_cellsDarkInAll wsJ6_bitCount_0f7a4 := goodIn_r _ [11, 12, 13, 14] (by decide +kernel) (by decide +kernel)
set_option maxRecDepth 20000 in
theorem gX5_cellsDarkInAll_J6_bitCount_0f7a4 : GoodIn wsX5_cellsDarkInAll (va_wsS RX5 244 yJ6_bitCount_0f7a4 wsJ6_bitCount_0f7a4) := goodIn_app (goodIn_of _ (by decide +kernel)) ggX5_cellsDarkInAll_J6_bitCount_0f7a4
theorem dX5_cellsDarkInAll_0 : decode cX5_cellsDarkInAll 0 = .ok (.iconst 0, 1) := by decide +kernel
theorem dX5_cellsDarkInAll_1 : decode cX5_cellsDarkInAll 1 = .ok (.istore_n 1, 1) := by decide +kernel
theorem dX5_cellsDarkInAll_2 : decode cX5_cellsDarkInAll 2 = .ok (.iconst 0, 1) := by decide +kernel
theorem dX5_cellsDarkInAll_3 : decode cX5_cellsDarkInAll 3 = .ok (.istore_n 2, 1) := by decide +kernel
theorem dX5_cellsDarkInAll_4 : decode cX5_cellsDarkInAll 4 = .ok (.iload_n 2, 1) := by decide +kernel
theorem dX5_cellsDarkInAll_5 : decode cX5_cellsDarkInAll 5 = .ok (.bipush 16, 2) := by decide +kernel
theorem dX5_cellsDarkInAll_7 : decode cX5_cellsDarkInAll 7 = .ok (.if_icmp .ge 58, 3) := by decide +kernel
theorem dX5_cellsDarkInAll_10 : decode cX5_cellsDarkInAll 10 = .ok (.iload_n 1, 1) := by decide +kernel
theorem dX5_cellsDarkInAll_11 : decode cX5_cellsDarkInAll 11 = .ok (.aload_n 0, 1) := by decide +kernel
theorem dX5_cellsDarkInAll_12 : decode cX5_cellsDarkInAll 12 = .ok (.getfield 11, 3) := by decide +kernel
theorem dX5_cellsDarkInAll_15 : decode cX5_cellsDarkInAll 15 = .ok (.iconst 0, 1) := by decide +kernel
theorem dX5_cellsDarkInAll_16 : decode cX5_cellsDarkInAll 16 = .ok (.aaload, 1) := by decide +kernel
theorem dX5_cellsDarkInAll_17 : decode cX5_cellsDarkInAll 17 = .ok (.iload_n 2, 1) := by decide +kernel
theorem dX5_cellsDarkInAll_18 : decode cX5_cellsDarkInAll 18 = .ok (.invokevirtual 86, 3) := by decide +kernel
theorem dX5_cellsDarkInAll_21 : decode cX5_cellsDarkInAll 21 = .ok (.aload_n 0, 1) := by decide +kernel
theorem dX5_cellsDarkInAll_22 : decode cX5_cellsDarkInAll 22 = .ok (.getfield 11, 3) := by decide +kernel
theorem dX5_cellsDarkInAll_25 : decode cX5_cellsDarkInAll 25 = .ok (.iconst 1, 1) := by decide +kernel
theorem dX5_cellsDarkInAll_26 : decode cX5_cellsDarkInAll 26 = .ok (.aaload, 1) := by decide +kernel
theorem dX5_cellsDarkInAll_27 : decode cX5_cellsDarkInAll 27 = .ok (.iload_n 2, 1) := by decide +kernel
theorem dX5_cellsDarkInAll_28 : decode cX5_cellsDarkInAll 28 = .ok (.invokevirtual 86, 3) := by decide +kernel
theorem dX5_cellsDarkInAll_31 : decode cX5_cellsDarkInAll 31 = .ok (.iand, 1) := by decide +kernel
theorem dX5_cellsDarkInAll_32 : decode cX5_cellsDarkInAll 32 = .ok (.aload_n 0, 1) := by decide +kernel
theorem dX5_cellsDarkInAll_33 : decode cX5_cellsDarkInAll 33 = .ok (.getfield 11, 3) := by decide +kernel
theorem dX5_cellsDarkInAll_36 : decode cX5_cellsDarkInAll 36 = .ok (.iconst 2, 1) := by decide +kernel
theorem dX5_cellsDarkInAll_37 : decode cX5_cellsDarkInAll 37 = .ok (.aaload, 1) := by decide +kernel
theorem dX5_cellsDarkInAll_38 : decode cX5_cellsDarkInAll 38 = .ok (.iload_n 2, 1) := by decide +kernel
theorem dX5_cellsDarkInAll_39 : decode cX5_cellsDarkInAll 39 = .ok (.invokevirtual 86, 3) := by decide +kernel
theorem dX5_cellsDarkInAll_42 : decode cX5_cellsDarkInAll 42 = .ok (.iand, 1) := by decide +kernel
theorem dX5_cellsDarkInAll_43 : decode cX5_cellsDarkInAll 43 = .ok (.aload_n 0, 1) := by decide +kernel
theorem dX5_cellsDarkInAll_44 : decode cX5_cellsDarkInAll 44 = .ok (.getfield 11, 3) := by decide +kernel
theorem dX5_cellsDarkInAll_47 : decode cX5_cellsDarkInAll 47 = .ok (.iconst 3, 1) := by decide +kernel
theorem dX5_cellsDarkInAll_48 : decode cX5_cellsDarkInAll 48 = .ok (.aaload, 1) := by decide +kernel
theorem dX5_cellsDarkInAll_49 : decode cX5_cellsDarkInAll 49 = .ok (.iload_n 2, 1) := by decide +kernel
theorem dX5_cellsDarkInAll_50 : decode cX5_cellsDarkInAll 50 = .ok (.invokevirtual 86, 3) := by decide +kernel
theorem dX5_cellsDarkInAll_53 : decode cX5_cellsDarkInAll 53 = .ok (.iand, 1) := by decide +kernel
theorem dX5_cellsDarkInAll_54 : decode cX5_cellsDarkInAll 54 = .ok (.invokestatic 244, 3) := by decide +kernel
theorem dX5_cellsDarkInAll_57 : decode cX5_cellsDarkInAll 57 = .ok (.iadd, 1) := by decide +kernel
theorem dX5_cellsDarkInAll_58 : decode cX5_cellsDarkInAll 58 = .ok (.istore_n 1, 1) := by decide +kernel
theorem dX5_cellsDarkInAll_59 : decode cX5_cellsDarkInAll 59 = .ok (.iinc 2 1, 3) := by decide +kernel
theorem dX5_cellsDarkInAll_62 : decode cX5_cellsDarkInAll 62 = .ok (.goto (-58), 3) := by decide +kernel
theorem dX5_cellsDarkInAll_65 : decode cX5_cellsDarkInAll 65 = .ok (.iload_n 1, 1) := by decide +kernel
theorem dX5_cellsDarkInAll_66 : decode cX5_cellsDarkInAll 66 = .ok (.ireturn, 1) := by decide +kernel
set_option maxRecDepth 20000 in
theorem ggX5_digest_X5_count : GoodIn wsX5_digest wsX5_count := goodIn_r _ [7, 8, 9, 10, 11, 12, 13, 14, 15, 16, 17, 18, 19, 20, 21, 22, 23, 24, 25, 26, 6, 27, 28, 29, 30, 31, 32, 33, 34, 35, 36, 37, 38, 39, 40, 41, 42, 43, 44, 45, 46, 47, 48, 49, 50, 51, 52, 53, 54, 55, 56, 57, 58, 59, 60, 61, 62, 63, 64, 65, 66, 67, 68, 69, 70, 71, 72, 73, 74, 75, 76, 77, 78, 79, 80, 81, 82, 83, 84, 85, 86, 87, 88, 89, 90, 91, 92, 93, 94, 95, 96, 97, 98, 99, 100, 101, 102, 103, 104, 105, 106, 107, 108, 109, 110, 111, 112, 113, 114, 115, 116, 117, 118, 119, 120, 121, 122, 123, 238, 239, 240, 241, 242, 243, 244, 245, 246, 247, 248, 249, 250, 251, 252, 253, 254, 255, 256, 257, 258, 259, 260, 261, 262] (by decide +kernel) (by decide +kernel)
set_option maxRecDepth 20000 in
theorem gX5_digest_X5_count : GoodIn wsX5_digest (wsV RX5 253 RX5 yX5_count wsX5_count) := goodIn_app (goodIn_of _ (by decide +kernel)) ggX5_digest_X5_count
set_option maxRecDepth 20000 in
theorem ggX5_digest_X5_digestOfBlocks : GoodIn wsX5_digest wsX5_digestOfBlocks := goodIn_r _ [127, 2, 128, 129, 130, 6, 131, 28, 8, 132, 133, 134, 135, 67, 68, 29, 30, 31, 32, 33, 34, 35, 36, 37, 38, 39, 40, 41, 14, 42, 16, 43, 44, 45, 46, 47, 48, 49, 50, 51, 52, 53, 54, 55, 56, 57, 58, 59, 60, 61, 62, 63, 64, 65, 66, 136, 137, 138, 139, 73, 140, 141, 74, 75, 76, 77, 78, 79, 80, 81, 82, 83, 84, 85, 86, 87, 88, 89, 90, 91, 92, 93, 94, 95, 96, 97, 98, 99, 100, 101, 102, 103, 104, 105, 106, 107, 108, 109, 110, 111, 112, 113, 114, 115, 116, 117, 142, 143, 144, 145, 17, 18, 19, 20, 21, 22, 23, 146, 12, 13, 15, 147, 148, 149, 150, 151, 152, 153, 154, 155, 156, 157, 158, 159, 11, 160, 161, 162, 163, 164, 165, 166, 167, 238, 239, 240, 241, 242, 243, 244, 245, 246, 252, 253, 254, 255, 256, 257, 251, 258, 259, 260, 261, 262] (by decide +kernel) (by decide +kernel)
set_option maxRecDepth 20000 in
theorem gX5_digest_X5_digestOfBlocks : GoodIn wsX5_digest (wsV RX5 256 RX5 yX5_digestOfBlocks wsX5_digestOfBlocks) := goodIn_app (goodIn_of _ (by decide +kernel)) ggX5_digest_X5_digestOfBlocks
set_option maxRecDepth 20000 in
theorem ggX5_digest_X5_digestOfCells : GoodIn wsX5_digest wsX5_digestOfCells := goodIn_r _ [171, 2, 172, 173, 174, 6, 175, 8, 132, 133, 134, 135, 67, 68, 176, 177, 178, 179, 89, 90, 14, 91, 16, 180, 181, 182, 183, 184, 185, 186, 187, 188, 55, 56, 57, 58, 59, 60, 61, 189, 190, 191, 192, 73, 74, 75, 76, 77, 78, 79, 80, 81, 82, 40, 41, 42, 83, 44, 45, 46, 84, 85, 86, 87, 88, 92, 93, 94, 95, 96, 97, 98, 99, 100, 101, 102, 103, 104, 105, 106, 107, 108, 109, 110, 111, 112, 113, 114, 115, 52, 116, 117, 51, 53, 193, 194, 195, 196, 197, 198, 199, 200, 201, 202, 203, 204, 205, 206, 207, 238, 239, 240, 241, 242, 243, 244, 245, 246, 251, 258, 259, 260, 261, 262] (by decide +kernel) (by decide +kernel)
set_option maxRecDepth 20000 in
theorem gX5_digest_X5_digestOfCells : GoodIn wsX5_digest (wsV RX5 260 RX5 yX5_digestOfCells wsX5_digestOfCells) := goodIn_app (goodIn_of _ (by decide +kernel)) ggX5_digest_X5_digestOfCells
set_option maxRecDepth 20000 in
theorem ggX5_digest_X5_digestOfParts : GoodIn wsX5_digest wsX5_digestOfParts := goodIn_r _ [211, 2, 212, 213, 214, 6, 215, 73, 8, 132, 133, 134, 135, 67, 68, 74, 75, 76, 77, 78, 79, 80, 81, 82, 40, 41, 14, 42, 16, 83, 44, 45, 46, 84, 85, 86, 87, 88, 89, 90, 91, 92, 93, 94, 95, 96, 97, 98, 99, 100, 101, 102, 103, 104, 105, 106, 107, 108, 109, 110, 111, 112, 113, 114, 115, 52, 116, 117, 51, 53, 216, 157, 158, 159, 238, 239, 240, 241, 242, 243, 244, 245, 246, 258, 259, 260, 261, 262, 251] (by decide +kernel) (by decide +kernel)
set_option maxRecDepth 20000 in
theorem gX5_digest_X5_digestOfParts : GoodIn wsX5_digest (wsV RX5 263 RX5 yX5_digestOfParts wsX5_digestOfParts) := goodIn_app (goodIn_of _ (by decide +kernel)) ggX5_digest_X5_digestOfParts
set_option maxRecDepth 20000 in
theorem ggX5_digest_X5_digestOfPairs : GoodIn wsX5_digest wsX5_digestOfPairs := goodIn_r _ [220, 2, 221, 222, 223, 6, 224, 8, 132, 133, 134, 135, 67, 68, 225, 40, 41, 14, 42, 16, 226, 227, 228, 229, 17, 18, 19, 20, 21, 22, 23, 11, 12, 13, 15, 230, 231, 232, 233, 234, 235, 236, 237, 151, 58, 59, 60, 61, 238, 239, 240, 241, 242, 243, 244, 245, 246, 251] (by decide +kernel) (by decide +kernel)
set_option maxRecDepth 20000 in
theorem gX5_digest_X5_digestOfPairs : GoodIn wsX5_digest (wsV RX5 266 RX5 yX5_digestOfPairs wsX5_digestOfPairs) := goodIn_app (goodIn_of _ (by decide +kernel)) ggX5_digest_X5_digestOfPairs
theorem dX5_digest_0 : decode cX5_digest 0 = .ok (.ldc2_w 249, 3) := by decide +kernel
theorem dX5_digest_3 : decode cX5_digest 3 = .ok (.lstore_n 1, 1) := by decide +kernel
theorem dX5_digest_4 : decode cX5_digest 4 = .ok (.iconst 0, 1) := by decide +kernel
theorem dX5_digest_5 : decode cX5_digest 5 = .ok (.istore_n 3, 1) := by decide +kernel
theorem dX5_digest_6 : decode cX5_digest 6 = .ok (.iload_n 3, 1) := by decide +kernel
theorem dX5_digest_7 : decode cX5_digest 7 = .ok (.bipush 7, 2) := by decide +kernel
theorem dX5_digest_9 : decode cX5_digest 9 = .ok (.if_icmp .gt 22, 3) := by decide +kernel
theorem dX5_digest_12 : decode cX5_digest 12 = .ok (.ldc2_w 251, 3) := by decide +kernel
theorem dX5_digest_15 : decode cX5_digest 15 = .ok (.lload_n 1, 1) := by decide +kernel
theorem dX5_digest_16 : decode cX5_digest 16 = .ok (.lmul, 1) := by decide +kernel
theorem dX5_digest_17 : decode cX5_digest 17 = .ok (.aload_n 0, 1) := by decide +kernel
theorem dX5_digest_18 : decode cX5_digest 18 = .ok (.iload_n 3, 1) := by decide +kernel
theorem dX5_digest_19 : decode cX5_digest 19 = .ok (.invokevirtual 253, 3) := by decide +kernel
theorem dX5_digest_22 : decode cX5_digest 22 = .ok (.i2l, 1) := by decide +kernel
theorem dX5_digest_23 : decode cX5_digest 23 = .ok (.ladd, 1) := by decide +kernel
theorem dX5_digest_24 : decode cX5_digest 24 = .ok (.lstore_n 1, 1) := by decide +kernel
theorem dX5_digest_25 : decode cX5_digest 25 = .ok (.iinc 3 1, 3) := by decide +kernel
theorem dX5_digest_28 : decode cX5_digest 28 = .ok (.goto (-22), 3) := by decide +kernel
theorem dX5_digest_31 : decode cX5_digest 31 = .ok (.iconst 0, 1) := by decide +kernel
theorem dX5_digest_32 : decode cX5_digest 32 = .ok (.istore_n 3, 1) := by decide +kernel
theorem dX5_digest_33 : decode cX5_digest 33 = .ok (.iload_n 3, 1) := by decide +kernel
theorem dX5_digest_34 : decode cX5_digest 34 = .ok (.iconst 4, 1) := by decide +kernel
theorem dX5_digest_35 : decode cX5_digest 35 = .ok (.if_icmp .ge 37, 3) := by decide +kernel
theorem dX5_digest_38 : decode cX5_digest 38 = .ok (.aload_n 0, 1) := by decide +kernel
theorem dX5_digest_39 : decode cX5_digest 39 = .ok (.lload_n 1, 1) := by decide +kernel
theorem dX5_digest_40 : decode cX5_digest 40 = .ok (.iload_n 3, 1) := by decide +kernel
theorem dX5_digest_41 : decode cX5_digest 41 = .ok (.invokevirtual 256, 3) := by decide +kernel
theorem dX5_digest_44 : decode cX5_digest 44 = .ok (.lstore_n 1, 1) := by decide +kernel
theorem dX5_digest_45 : decode cX5_digest 45 = .ok (.aload_n 0, 1) := by decide +kernel
theorem dX5_digest_46 : decode cX5_digest 46 = .ok (.lload_n 1, 1) := by decide +kernel
theorem dX5_digest_47 : decode cX5_digest 47 = .ok (.iload_n 3, 1) := by decide +kernel
theorem dX5_digest_48 : decode cX5_digest 48 = .ok (.invokevirtual 260, 3) := by decide +kernel
theorem dX5_digest_51 : decode cX5_digest 51 = .ok (.lstore_n 1, 1) := by decide +kernel
theorem dX5_digest_52 : decode cX5_digest 52 = .ok (.aload_n 0, 1) := by decide +kernel
theorem dX5_digest_53 : decode cX5_digest 53 = .ok (.lload_n 1, 1) := by decide +kernel
theorem dX5_digest_54 : decode cX5_digest 54 = .ok (.iload_n 3, 1) := by decide +kernel
theorem dX5_digest_55 : decode cX5_digest 55 = .ok (.invokevirtual 263, 3) := by decide +kernel
theorem dX5_digest_58 : decode cX5_digest 58 = .ok (.lstore_n 1, 1) := by decide +kernel
theorem dX5_digest_59 : decode cX5_digest 59 = .ok (.aload_n 0, 1) := by decide +kernel
theorem dX5_digest_60 : decode cX5_digest 60 = .ok (.lload_n 1, 1) := by decide +kernel
theorem dX5_digest_61 : decode cX5_digest 61 = .ok (.iload_n 3, 1) := by decide +kernel
theorem dX5_digest_62 : decode cX5_digest 62 = .ok (.invokevirtual 266, 3) := by decide +kernel
theorem dX5_digest_65 : decode cX5_digest 65 = .ok (.lstore_n 1, 1) := by decide +kernel
theorem dX5_digest_66 : decode cX5_digest 66 = .ok (.iinc 3 1, 3) := by decide +kernel
theorem dX5_digest_69 : decode cX5_digest 69 = .ok (.goto (-36), 3) := by decide +kernel
theorem dX5_digest_72 : decode cX5_digest 72 = .ok (.lload_n 1, 1) := by decide +kernel
theorem dX5_digest_73 : decode cX5_digest 73 = .ok (.lreturn, 1) := by decide +kernel
set_option maxRecDepth 20000 in
theorem ggX5_digestOfBlocks_X5_blocks : GoodIn wsX5_digestOfBlocks wsX5_blocks := goodIn_r _ [6, 7, 8, 9, 10, 5, 11, 12, 13, 14, 15, 16, 17, 18, 19, 20, 21, 22, 23, 24, 25, 26, 27, 28, 29, 30, 31, 32, 33, 34, 35, 36, 37, 38, 39, 40, 41, 42, 43, 44, 45, 46, 47, 48, 49, 50, 51, 52, 53, 54, 143, 144, 145, 146, 147, 148, 149, 150, 151, 152, 153, 154, 155, 156, 157, 158] (by decide +kernel) (by decide +kernel)
set_option maxRecDepth 20000 in
theorem gX5_digestOfBlocks_X5_blocks : GoodIn wsX5_digestOfBlocks (wsV RX5 269 RX5 yX5_blocks wsX5_blocks) := goodIn_app (goodIn_of _ (by decide +kernel)) ggX5_digestOfBlocks_X5_blocks
set_option maxRecDepth 20000 in
theorem ggX5_digestOfBlocks_X5_all : GoodIn wsX5_digestOfBlocks wsX5_all := goodIn_r _ [58, 59, 8, 60, 61, 9, 10, 5, 11, 12, 13, 14, 62, 63, 64, 65, 66, 67, 68, 69, 70, 26, 27, 28, 29, 30, 71, 32, 33, 34, 72, 73, 74, 75, 76, 77, 78, 79, 80, 81, 82, 83, 84, 85, 86, 87, 88, 89, 90, 91, 92, 93, 94, 95, 96, 97, 98, 99, 100, 101, 102, 103, 40, 104, 105, 39, 41, 106, 107, 108, 109, 110, 111, 112, 113, 114, 115, 116, 46, 47, 48, 49, 117, 118, 119, 120, 121, 122, 123, 124, 125, 126, 127, 128, 129, 130, 131, 132, 133, 134, 143, 144, 145, 146, 147, 148, 149, 150, 151, 159, 160, 161, 162, 163, 158] (by decide +kernel) (by decide +kernel)
set_option maxRecDepth 20000 in
theorem gX5_digestOfBlocks_X5_all : GoodIn wsX5_digestOfBlocks (wsV RX5 272 RX5 yX5_all wsX5_all) := goodIn_app (goodIn_of _ (by decide +kernel)) ggX5_digestOfBlocks_X5_all
set_option maxRecDepth 20000 in
theorem ggX5_digestOfBlocks_X5_shown : GoodIn wsX5_digestOfBlocks wsX5_shown := goodIn_r _ [138, 7, 8, 9, 10, 5, 11, 12, 13, 14, 15, 16, 17, 18, 19, 20, 21, 22, 23, 24, 25, 26, 27, 28, 29, 30, 31, 32, 33, 34, 35, 36, 37, 38, 39, 40, 41, 42, 43, 44, 45, 46, 47, 48, 49, 50, 51, 52, 53, 54, 139, 140, 141, 142, 143, 144, 145, 146, 147, 148, 149, 150, 151, 152, 153, 154, 155, 156, 157, 158] (by decide +kernel) (by decide +kernel)
set_option maxRecDepth 20000 in
theorem gX5_digestOfBlocks_X5_shown : GoodIn wsX5_digestOfBlocks (wsV RX5 275 RX5 yX5_shown wsX5_shown) := goodIn_app (goodIn_of _ (by decide +kernel)) ggX5_digestOfBlocks_X5_shown
theorem dX5_digestOfBlocks_0 : decode cX5_digestOfBlocks 0 = .ok (.lload_n 1, 1) := by decide +kernel
theorem dX5_digestOfBlocks_1 : decode cX5_digestOfBlocks 1 = .ok (.lstore 4, 2) := by decide +kernel
theorem dX5_digestOfBlocks_3 : decode cX5_digestOfBlocks 3 = .ok (.iconst 0, 1) := by decide +kernel
theorem dX5_digestOfBlocks_4 : decode cX5_digestOfBlocks 4 = .ok (.istore 6, 2) := by decide +kernel
theorem dX5_digestOfBlocks_6 : decode cX5_digestOfBlocks 6 = .ok (.iload 6, 2) := by decide +kernel
theorem dX5_digestOfBlocks_8 : decode cX5_digestOfBlocks 8 = .ok (.iconst 3, 1) := by decide +kernel
theorem dX5_digestOfBlocks_9 : decode cX5_digestOfBlocks 9 = .ok (.if_icmp .gt 26, 3) := by decide +kernel
theorem dX5_digestOfBlocks_12 : decode cX5_digestOfBlocks 12 = .ok (.ldc2_w 251, 3) := by decide +kernel
theorem dX5_digestOfBlocks_15 : decode cX5_digestOfBlocks 15 = .ok (.lload 4, 2) := by decide +kernel
theorem dX5_digestOfBlocks_17 : decode cX5_digestOfBlocks 17 = .ok (.lmul, 1) := by decide +kernel
theorem dX5_digestOfBlocks_18 : decode cX5_digestOfBlocks 18 = .ok (.aload_n 0, 1) := by decide +kernel
theorem dX5_digestOfBlocks_19 : decode cX5_digestOfBlocks 19 = .ok (.iload_n 3, 1) := by decide +kernel
theorem dX5_digestOfBlocks_20 : decode cX5_digestOfBlocks 20 = .ok (.iload 6, 2) := by decide +kernel
theorem dX5_digestOfBlocks_22 : decode cX5_digestOfBlocks 22 = .ok (.invokevirtual 269, 3) := by decide +kernel
theorem dX5_digestOfBlocks_25 : decode cX5_digestOfBlocks 25 = .ok (.i2l, 1) := by decide +kernel
theorem dX5_digestOfBlocks_26 : decode cX5_digestOfBlocks 26 = .ok (.ladd, 1) := by decide +kernel
theorem dX5_digestOfBlocks_27 : decode cX5_digestOfBlocks 27 = .ok (.lstore 4, 2) := by decide +kernel
theorem dX5_digestOfBlocks_29 : decode cX5_digestOfBlocks 29 = .ok (.iinc 6 1, 3) := by decide +kernel
theorem dX5_digestOfBlocks_32 : decode cX5_digestOfBlocks 32 = .ok (.goto (-26), 3) := by decide +kernel
theorem dX5_digestOfBlocks_35 : decode cX5_digestOfBlocks 35 = .ok (.iconst 0, 1) := by decide +kernel
theorem dX5_digestOfBlocks_36 : decode cX5_digestOfBlocks 36 = .ok (.istore 6, 2) := by decide +kernel
theorem dX5_digestOfBlocks_38 : decode cX5_digestOfBlocks 38 = .ok (.iload 6, 2) := by decide +kernel
theorem dX5_digestOfBlocks_40 : decode cX5_digestOfBlocks 40 = .ok (.iconst 3, 1) := by decide +kernel
theorem dX5_digestOfBlocks_41 : decode cX5_digestOfBlocks 41 = .ok (.if_icmp .gt 26, 3) := by decide +kernel
theorem dX5_digestOfBlocks_44 : decode cX5_digestOfBlocks 44 = .ok (.ldc2_w 251, 3) := by decide +kernel
theorem dX5_digestOfBlocks_47 : decode cX5_digestOfBlocks 47 = .ok (.lload 4, 2) := by decide +kernel
theorem dX5_digestOfBlocks_49 : decode cX5_digestOfBlocks 49 = .ok (.lmul, 1) := by decide +kernel
theorem dX5_digestOfBlocks_50 : decode cX5_digestOfBlocks 50 = .ok (.aload_n 0, 1) := by decide +kernel
theorem dX5_digestOfBlocks_51 : decode cX5_digestOfBlocks 51 = .ok (.iload_n 3, 1) := by decide +kernel
theorem dX5_digestOfBlocks_52 : decode cX5_digestOfBlocks 52 = .ok (.iload 6, 2) := by decide +kernel
theorem dX5_digestOfBlocks_54 : decode cX5_digestOfBlocks 54 = .ok (.invokevirtual 272, 3) := by decide +kernel
theorem dX5_digestOfBlocks_57 : decode cX5_digestOfBlocks 57 = .ok (.i2l, 1) := by decide +kernel
theorem dX5_digestOfBlocks_58 : decode cX5_digestOfBlocks 58 = .ok (.ladd, 1) := by decide +kernel
theorem dX5_digestOfBlocks_59 : decode cX5_digestOfBlocks 59 = .ok (.lstore 4, 2) := by decide +kernel
theorem dX5_digestOfBlocks_61 : decode cX5_digestOfBlocks 61 = .ok (.iinc 6 1, 3) := by decide +kernel
theorem dX5_digestOfBlocks_64 : decode cX5_digestOfBlocks 64 = .ok (.goto (-26), 3) := by decide +kernel
theorem dX5_digestOfBlocks_67 : decode cX5_digestOfBlocks 67 = .ok (.iconst (-1), 1) := by decide +kernel
theorem dX5_digestOfBlocks_68 : decode cX5_digestOfBlocks 68 = .ok (.istore 6, 2) := by decide +kernel
theorem dX5_digestOfBlocks_70 : decode cX5_digestOfBlocks 70 = .ok (.iload 6, 2) := by decide +kernel
theorem dX5_digestOfBlocks_72 : decode cX5_digestOfBlocks 72 = .ok (.bipush 40, 2) := by decide +kernel
theorem dX5_digestOfBlocks_74 : decode cX5_digestOfBlocks 74 = .ok (.if_icmp .gt 26, 3) := by decide +kernel
theorem dX5_digestOfBlocks_77 : decode cX5_digestOfBlocks 77 = .ok (.ldc2_w 251, 3) := by decide +kernel
theorem dX5_digestOfBlocks_80 : decode cX5_digestOfBlocks 80 = .ok (.lload 4, 2) := by decide +kernel
theorem dX5_digestOfBlocks_82 : decode cX5_digestOfBlocks 82 = .ok (.lmul, 1) := by decide +kernel
theorem dX5_digestOfBlocks_83 : decode cX5_digestOfBlocks 83 = .ok (.aload_n 0, 1) := by decide +kernel
theorem dX5_digestOfBlocks_84 : decode cX5_digestOfBlocks 84 = .ok (.iload_n 3, 1) := by decide +kernel
theorem dX5_digestOfBlocks_85 : decode cX5_digestOfBlocks 85 = .ok (.iload 6, 2) := by decide +kernel
theorem dX5_digestOfBlocks_87 : decode cX5_digestOfBlocks 87 = .ok (.invokevirtual 275, 3) := by decide +kernel
theorem dX5_digestOfBlocks_90 : decode cX5_digestOfBlocks 90 = .ok (.i2l, 1) := by decide +kernel
theorem dX5_digestOfBlocks_91 : decode cX5_digestOfBlocks 91 = .ok (.ladd, 1) := by decide +kernel
theorem dX5_digestOfBlocks_92 : decode cX5_digestOfBlocks 92 = .ok (.lstore 4, 2) := by decide +kernel
theorem dX5_digestOfBlocks_94 : decode cX5_digestOfBlocks 94 = .ok (.iinc 6 1, 3) := by decide +kernel
theorem dX5_digestOfBlocks_97 : decode cX5_digestOfBlocks 97 = .ok (.goto (-27), 3) := by decide +kernel
theorem dX5_digestOfBlocks_100 : decode cX5_digestOfBlocks 100 = .ok (.lload 4, 2) := by decide +kernel
theorem dX5_digestOfBlocks_102 : decode cX5_digestOfBlocks 102 = .ok (.lreturn, 1) := by decide +kernel
set_option maxRecDepth 20000 in
theorem ggX5_digestOfCells_X5_cell : GoodIn wsX5_digestOfCells wsX5_cell := goodIn_r _ [6, 7, 8, 9, 5, 10, 11, 12, 13, 14, 15, 16, 17, 18, 19, 20, 21, 22, 109, 110, 111, 112, 113, 114, 115, 116, 117, 118] (by decide +kernel) (by decide +kernel)
set_option maxRecDepth 20000 in
theorem gX5_digestOfCells_X5_cell : GoodIn wsX5_digestOfCells (wsV RX5 278 RX5 yX5_cell wsX5_cell) := goodIn_app (goodIn_of _ (by decide +kernel)) ggX5_digestOfCells_X5_cell
set_option maxRecDepth 20000 in
theorem ggX5_digestOfCells_X5_block : GoodIn wsX5_digestOfCells wsX5_block := goodIn_r _ [26, 7, 8, 9, 5, 10, 11, 12, 13, 14, 15, 16, 27, 28, 29, 20, 30, 31, 32, 33, 34, 35, 36, 37, 38, 22, 109, 110, 111, 112, 113, 114, 115, 116, 117, 118] (by decide +kernel) (by decide +kernel)
set_option maxRecDepth 20000 in
theorem gX5_digestOfCells_X5_block : GoodIn wsX5_digestOfCells (wsV RX5 281 RX5 yX5_block wsX5_block) := goodIn_app (goodIn_of _ (by decide +kernel)) ggX5_digestOfCells_X5_block
set_option maxRecDepth 20000 in
theorem ggX5_digestOfCells_X5_label : GoodIn wsX5_digestOfCells wsX5_label := goodIn_r _ [42, 43, 7, 8, 9, 5, 10, 11, 12, 13, 14, 15, 16, 44, 45, 46, 47, 48, 49, 50, 51, 52, 53, 54, 20, 55, 22, 56, 57, 58, 59, 60, 61, 62, 63, 64, 18, 19, 21, 65, 66, 67, 68, 69, 70, 71, 72, 73, 74, 75, 76, 77, 78, 79, 80, 81, 82, 83, 84, 85, 86, 87, 88, 89, 90, 91, 92, 93, 94, 109, 110, 111, 112, 113, 114, 115, 116, 117, 119, 120, 121, 122, 123, 118] (by decide +kernel) (by decide +kernel)
set_option maxRecDepth 20000 in
theorem gX5_digestOfCells_X5_label : GoodIn wsX5_digestOfCells (wsV RX5 285 RX5 yX5_label wsX5_label) := goodIn_app (goodIn_of _ (by decide +kernel)) ggX5_digestOfCells_X5_label
set_option maxRecDepth 20000 in
theorem ggX5_digestOfCells_X5_near : GoodIn wsX5_digestOfCells wsX5_near := goodIn_r _ [98, 7, 8, 9, 5, 10, 11, 12, 13, 14, 15, 16, 99, 100, 101, 20, 102, 22, 103, 104, 89, 105, 106, 107, 108, 109, 110, 111, 112, 113, 114, 115, 116, 117, 118] (by decide +kernel) (by decide +kernel)
set_option maxRecDepth 20000 in
theorem gX5_digestOfCells_X5_near : GoodIn wsX5_digestOfCells (wsV RX5 288 RX5 yX5_near wsX5_near) := goodIn_app (goodIn_of _ (by decide +kernel)) ggX5_digestOfCells_X5_near
theorem dX5_digestOfCells_0 : decode cX5_digestOfCells 0 = .ok (.lload_n 1, 1) := by decide +kernel
theorem dX5_digestOfCells_1 : decode cX5_digestOfCells 1 = .ok (.lstore 4, 2) := by decide +kernel
theorem dX5_digestOfCells_3 : decode cX5_digestOfCells 3 = .ok (.iconst 0, 1) := by decide +kernel
theorem dX5_digestOfCells_4 : decode cX5_digestOfCells 4 = .ok (.istore 6, 2) := by decide +kernel
theorem dX5_digestOfCells_6 : decode cX5_digestOfCells 6 = .ok (.iload 6, 2) := by decide +kernel
theorem dX5_digestOfCells_8 : decode cX5_digestOfCells 8 = .ok (.bipush 16, 2) := by decide +kernel
theorem dX5_digestOfCells_10 : decode cX5_digestOfCells 10 = .ok (.if_icmp .ge 102, 3) := by decide +kernel
theorem dX5_digestOfCells_13 : decode cX5_digestOfCells 13 = .ok (.iconst 0, 1) := by decide +kernel
theorem dX5_digestOfCells_14 : decode cX5_digestOfCells 14 = .ok (.istore 7, 2) := by decide +kernel
theorem dX5_digestOfCells_16 : decode cX5_digestOfCells 16 = .ok (.iload 7, 2) := by decide +kernel
theorem dX5_digestOfCells_18 : decode cX5_digestOfCells 18 = .ok (.bipush 16, 2) := by decide +kernel
theorem dX5_digestOfCells_20 : decode cX5_digestOfCells 20 = .ok (.if_icmp .ge 86, 3) := by decide +kernel
theorem dX5_digestOfCells_23 : decode cX5_digestOfCells 23 = .ok (.ldc2_w 251, 3) := by decide +kernel
theorem dX5_digestOfCells_26 : decode cX5_digestOfCells 26 = .ok (.lload 4, 2) := by decide +kernel
theorem dX5_digestOfCells_28 : decode cX5_digestOfCells 28 = .ok (.lmul, 1) := by decide +kernel
theorem dX5_digestOfCells_29 : decode cX5_digestOfCells 29 = .ok (.aload_n 0, 1) := by decide +kernel
theorem dX5_digestOfCells_30 : decode cX5_digestOfCells 30 = .ok (.iload_n 3, 1) := by decide +kernel
theorem dX5_digestOfCells_31 : decode cX5_digestOfCells 31 = .ok (.iload 7, 2) := by decide +kernel
theorem dX5_digestOfCells_33 : decode cX5_digestOfCells 33 = .ok (.iload 6, 2) := by decide +kernel
theorem dX5_digestOfCells_35 : decode cX5_digestOfCells 35 = .ok (.invokevirtual 278, 3) := by decide +kernel
theorem dX5_digestOfCells_38 : decode cX5_digestOfCells 38 = .ok (.i2l, 1) := by decide +kernel
theorem dX5_digestOfCells_39 : decode cX5_digestOfCells 39 = .ok (.ladd, 1) := by decide +kernel
theorem dX5_digestOfCells_40 : decode cX5_digestOfCells 40 = .ok (.lstore 4, 2) := by decide +kernel
theorem dX5_digestOfCells_42 : decode cX5_digestOfCells 42 = .ok (.ldc2_w 251, 3) := by decide +kernel
theorem dX5_digestOfCells_45 : decode cX5_digestOfCells 45 = .ok (.lload 4, 2) := by decide +kernel
theorem dX5_digestOfCells_47 : decode cX5_digestOfCells 47 = .ok (.lmul, 1) := by decide +kernel
theorem dX5_digestOfCells_48 : decode cX5_digestOfCells 48 = .ok (.aload_n 0, 1) := by decide +kernel
theorem dX5_digestOfCells_49 : decode cX5_digestOfCells 49 = .ok (.iload_n 3, 1) := by decide +kernel
theorem dX5_digestOfCells_50 : decode cX5_digestOfCells 50 = .ok (.iload 7, 2) := by decide +kernel
theorem dX5_digestOfCells_52 : decode cX5_digestOfCells 52 = .ok (.iload 6, 2) := by decide +kernel
theorem dX5_digestOfCells_54 : decode cX5_digestOfCells 54 = .ok (.iconst 2, 1) := by decide +kernel
theorem dX5_digestOfCells_55 : decode cX5_digestOfCells 55 = .ok (.invokevirtual 281, 3) := by decide +kernel
theorem dX5_digestOfCells_58 : decode cX5_digestOfCells 58 = .ok (.i2l, 1) := by decide +kernel
theorem dX5_digestOfCells_59 : decode cX5_digestOfCells 59 = .ok (.ladd, 1) := by decide +kernel
theorem dX5_digestOfCells_60 : decode cX5_digestOfCells 60 = .ok (.lstore 4, 2) := by decide +kernel
theorem dX5_digestOfCells_62 : decode cX5_digestOfCells 62 = .ok (.ldc2_w 251, 3) := by decide +kernel
theorem dX5_digestOfCells_65 : decode cX5_digestOfCells 65 = .ok (.lload 4, 2) := by decide +kernel
theorem dX5_digestOfCells_67 : decode cX5_digestOfCells 67 = .ok (.lmul, 1) := by decide +kernel
theorem dX5_digestOfCells_68 : decode cX5_digestOfCells 68 = .ok (.aload_n 0, 1) := by decide +kernel
theorem dX5_digestOfCells_69 : decode cX5_digestOfCells 69 = .ok (.iload_n 3, 1) := by decide +kernel
theorem dX5_digestOfCells_70 : decode cX5_digestOfCells 70 = .ok (.iload 7, 2) := by decide +kernel
theorem dX5_digestOfCells_72 : decode cX5_digestOfCells 72 = .ok (.iload 6, 2) := by decide +kernel
theorem dX5_digestOfCells_74 : decode cX5_digestOfCells 74 = .ok (.invokevirtual 285, 3) := by decide +kernel
theorem dX5_digestOfCells_77 : decode cX5_digestOfCells 77 = .ok (.i2l, 1) := by decide +kernel
theorem dX5_digestOfCells_78 : decode cX5_digestOfCells 78 = .ok (.ladd, 1) := by decide +kernel
theorem dX5_digestOfCells_79 : decode cX5_digestOfCells 79 = .ok (.lstore 4, 2) := by decide +kernel
theorem dX5_digestOfCells_81 : decode cX5_digestOfCells 81 = .ok (.ldc2_w 251, 3) := by decide +kernel
theorem dX5_digestOfCells_84 : decode cX5_digestOfCells 84 = .ok (.lload 4, 2) := by decide +kernel
theorem dX5_digestOfCells_86 : decode cX5_digestOfCells 86 = .ok (.lmul, 1) := by decide +kernel
theorem dX5_digestOfCells_87 : decode cX5_digestOfCells 87 = .ok (.aload_n 0, 1) := by decide +kernel
theorem dX5_digestOfCells_88 : decode cX5_digestOfCells 88 = .ok (.iload_n 3, 1) := by decide +kernel
theorem dX5_digestOfCells_89 : decode cX5_digestOfCells 89 = .ok (.iload 7, 2) := by decide +kernel
theorem dX5_digestOfCells_91 : decode cX5_digestOfCells 91 = .ok (.iload 6, 2) := by decide +kernel
theorem dX5_digestOfCells_93 : decode cX5_digestOfCells 93 = .ok (.invokevirtual 288, 3) := by decide +kernel
theorem dX5_digestOfCells_96 : decode cX5_digestOfCells 96 = .ok (.i2l, 1) := by decide +kernel
theorem dX5_digestOfCells_97 : decode cX5_digestOfCells 97 = .ok (.ladd, 1) := by decide +kernel
theorem dX5_digestOfCells_98 : decode cX5_digestOfCells 98 = .ok (.lstore 4, 2) := by decide +kernel
theorem dX5_digestOfCells_100 : decode cX5_digestOfCells 100 = .ok (.iinc 7 5, 3) := by decide +kernel
theorem dX5_digestOfCells_103 : decode cX5_digestOfCells 103 = .ok (.goto (-87), 3) := by decide +kernel
theorem dX5_digestOfCells_106 : decode cX5_digestOfCells 106 = .ok (.iinc 6 3, 3) := by decide +kernel
theorem dX5_digestOfCells_109 : decode cX5_digestOfCells 109 = .ok (.goto (-103), 3) := by decide +kernel
theorem dX5_digestOfCells_112 : decode cX5_digestOfCells 112 = .ok (.lload 4, 2) := by decide +kernel
theorem dX5_digestOfCells_114 : decode cX5_digestOfCells 114 = .ok (.lreturn, 1) := by decide +kernel
set_option maxRecDepth 20000 in
theorem ggX5_digestOfParts_X5_part : GoodIn wsX5_digestOfParts wsX5_part := goodIn_r _ [6, 7, 8, 9, 10, 5, 11, 12, 13, 14, 15, 16, 17, 18, 19, 20, 21, 22, 23, 24, 25, 26, 27, 28, 29, 30, 31, 32, 33, 34, 35, 36, 37, 38, 39, 40, 41, 42, 43, 44, 45, 46, 47, 48, 49, 50, 51, 52, 53, 54, 55, 56, 57, 58, 59, 60, 61, 62, 63, 64, 65, 66, 67, 68, 69, 70, 71, 72, 73, 74, 75, 76, 77, 78, 79, 80, 81, 82, 83, 84, 85, 86, 87, 88] (by decide +kernel) (by decide +kernel)
set_option maxRecDepth 20000 in
theorem gX5_digestOfParts_X5_part : GoodIn wsX5_digestOfParts (wsV RX5 291 RX5 yX5_part wsX5_part) := goodIn_app (goodIn_of _ (by decide +kernel)) ggX5_digestOfParts_X5_part
theorem dX5_digestOfParts_0 : decode cX5_digestOfParts 0 = .ok (.lload_n 1, 1) := by decide +kernel
theorem dX5_digestOfParts_1 : decode cX5_digestOfParts 1 = .ok (.lstore 4, 2) := by decide +kernel
theorem dX5_digestOfParts_3 : decode cX5_digestOfParts 3 = .ok (.iconst 0, 1) := by decide +kernel
theorem dX5_digestOfParts_4 : decode cX5_digestOfParts 4 = .ok (.istore 6, 2) := by decide +kernel
theorem dX5_digestOfParts_6 : decode cX5_digestOfParts 6 = .ok (.iload 6, 2) := by decide +kernel
theorem dX5_digestOfParts_8 : decode cX5_digestOfParts 8 = .ok (.iconst 3, 1) := by decide +kernel
theorem dX5_digestOfParts_9 : decode cX5_digestOfParts 9 = .ok (.if_icmp .gt 44, 3) := by decide +kernel
theorem dX5_digestOfParts_12 : decode cX5_digestOfParts 12 = .ok (.iconst 0, 1) := by decide +kernel
theorem dX5_digestOfParts_13 : decode cX5_digestOfParts 13 = .ok (.istore 7, 2) := by decide +kernel
theorem dX5_digestOfParts_15 : decode cX5_digestOfParts 15 = .ok (.iload 7, 2) := by decide +kernel
theorem dX5_digestOfParts_17 : decode cX5_digestOfParts 17 = .ok (.bipush 6, 2) := by decide +kernel
theorem dX5_digestOfParts_19 : decode cX5_digestOfParts 19 = .ok (.if_icmp .ge 28, 3) := by decide +kernel
theorem dX5_digestOfParts_22 : decode cX5_digestOfParts 22 = .ok (.ldc2_w 251, 3) := by decide +kernel
theorem dX5_digestOfParts_25 : decode cX5_digestOfParts 25 = .ok (.lload 4, 2) := by decide +kernel
theorem dX5_digestOfParts_27 : decode cX5_digestOfParts 27 = .ok (.lmul, 1) := by decide +kernel
theorem dX5_digestOfParts_28 : decode cX5_digestOfParts 28 = .ok (.aload_n 0, 1) := by decide +kernel
theorem dX5_digestOfParts_29 : decode cX5_digestOfParts 29 = .ok (.iload_n 3, 1) := by decide +kernel
theorem dX5_digestOfParts_30 : decode cX5_digestOfParts 30 = .ok (.iload 6, 2) := by decide +kernel
theorem dX5_digestOfParts_32 : decode cX5_digestOfParts 32 = .ok (.iload 7, 2) := by decide +kernel
theorem dX5_digestOfParts_34 : decode cX5_digestOfParts 34 = .ok (.invokevirtual 291, 3) := by decide +kernel
theorem dX5_digestOfParts_37 : decode cX5_digestOfParts 37 = .ok (.i2l, 1) := by decide +kernel
theorem dX5_digestOfParts_38 : decode cX5_digestOfParts 38 = .ok (.ladd, 1) := by decide +kernel
theorem dX5_digestOfParts_39 : decode cX5_digestOfParts 39 = .ok (.lstore 4, 2) := by decide +kernel
theorem dX5_digestOfParts_41 : decode cX5_digestOfParts 41 = .ok (.iinc 7 1, 3) := by decide +kernel
theorem dX5_digestOfParts_44 : decode cX5_digestOfParts 44 = .ok (.goto (-29), 3) := by decide +kernel
theorem dX5_digestOfParts_47 : decode cX5_digestOfParts 47 = .ok (.iinc 6 1, 3) := by decide +kernel
theorem dX5_digestOfParts_50 : decode cX5_digestOfParts 50 = .ok (.goto (-44), 3) := by decide +kernel
theorem dX5_digestOfParts_53 : decode cX5_digestOfParts 53 = .ok (.lload 4, 2) := by decide +kernel
theorem dX5_digestOfParts_55 : decode cX5_digestOfParts 55 = .ok (.lreturn, 1) := by decide +kernel
set_option maxRecDepth 20000 in
theorem ggX5_digestOfPairs_X5_both : GoodIn wsX5_digestOfPairs wsX5_both := goodIn_r _ [6, 7, 8, 9, 5, 10, 11, 12, 13, 14, 15, 16, 17, 18, 19, 20, 21, 22, 23, 24, 25, 26, 27, 28, 29, 30, 31, 32, 33, 34, 35, 36, 37, 38, 39, 40, 41, 42, 43, 44, 45, 46, 47, 48, 49, 50, 51, 52, 53, 54, 55, 56, 57] (by decide +kernel) (by decide +kernel)
set_option maxRecDepth 20000 in
theorem gX5_digestOfPairs_X5_both : GoodIn wsX5_digestOfPairs (wsV RX5 294 RX5 yX5_both wsX5_both) := goodIn_app (goodIn_of _ (by decide +kernel)) ggX5_digestOfPairs_X5_both
theorem dX5_digestOfPairs_0 : decode cX5_digestOfPairs 0 = .ok (.lload_n 1, 1) := by decide +kernel
theorem dX5_digestOfPairs_1 : decode cX5_digestOfPairs 1 = .ok (.lstore 4, 2) := by decide +kernel
theorem dX5_digestOfPairs_3 : decode cX5_digestOfPairs 3 = .ok (.iconst 0, 1) := by decide +kernel
theorem dX5_digestOfPairs_4 : decode cX5_digestOfPairs 4 = .ok (.istore 6, 2) := by decide +kernel
theorem dX5_digestOfPairs_6 : decode cX5_digestOfPairs 6 = .ok (.iload 6, 2) := by decide +kernel
theorem dX5_digestOfPairs_8 : decode cX5_digestOfPairs 8 = .ok (.iconst 4, 1) := by decide +kernel
theorem dX5_digestOfPairs_9 : decode cX5_digestOfPairs 9 = .ok (.if_icmp .ge 43, 3) := by decide +kernel
theorem dX5_digestOfPairs_12 : decode cX5_digestOfPairs 12 = .ok (.iconst 0, 1) := by decide +kernel
theorem dX5_digestOfPairs_13 : decode cX5_digestOfPairs 13 = .ok (.istore 7, 2) := by decide +kernel
theorem dX5_digestOfPairs_15 : decode cX5_digestOfPairs 15 = .ok (.iload 7, 2) := by decide +kernel
theorem dX5_digestOfPairs_17 : decode cX5_digestOfPairs 17 = .ok (.iconst 3, 1) := by decide +kernel
theorem dX5_digestOfPairs_18 : decode cX5_digestOfPairs 18 = .ok (.if_icmp .gt 28, 3) := by decide +kernel
theorem dX5_digestOfPairs_21 : decode cX5_digestOfPairs 21 = .ok (.ldc2_w 251, 3) := by decide +kernel
theorem dX5_digestOfPairs_24 : decode cX5_digestOfPairs 24 = .ok (.lload 4, 2) := by decide +kernel
theorem dX5_digestOfPairs_26 : decode cX5_digestOfPairs 26 = .ok (.lmul, 1) := by decide +kernel
theorem dX5_digestOfPairs_27 : decode cX5_digestOfPairs 27 = .ok (.aload_n 0, 1) := by decide +kernel
theorem dX5_digestOfPairs_28 : decode cX5_digestOfPairs 28 = .ok (.iload_n 3, 1) := by decide +kernel
theorem dX5_digestOfPairs_29 : decode cX5_digestOfPairs 29 = .ok (.iload 6, 2) := by decide +kernel
theorem dX5_digestOfPairs_31 : decode cX5_digestOfPairs 31 = .ok (.iload 7, 2) := by decide +kernel
theorem dX5_digestOfPairs_33 : decode cX5_digestOfPairs 33 = .ok (.invokevirtual 294, 3) := by decide +kernel
theorem dX5_digestOfPairs_36 : decode cX5_digestOfPairs 36 = .ok (.i2l, 1) := by decide +kernel
theorem dX5_digestOfPairs_37 : decode cX5_digestOfPairs 37 = .ok (.ladd, 1) := by decide +kernel
theorem dX5_digestOfPairs_38 : decode cX5_digestOfPairs 38 = .ok (.lstore 4, 2) := by decide +kernel
theorem dX5_digestOfPairs_40 : decode cX5_digestOfPairs 40 = .ok (.iinc 7 1, 3) := by decide +kernel
theorem dX5_digestOfPairs_43 : decode cX5_digestOfPairs 43 = .ok (.goto (-28), 3) := by decide +kernel
theorem dX5_digestOfPairs_46 : decode cX5_digestOfPairs 46 = .ok (.iinc 6 1, 3) := by decide +kernel
theorem dX5_digestOfPairs_49 : decode cX5_digestOfPairs 49 = .ok (.goto (-43), 3) := by decide +kernel
theorem dX5_digestOfPairs_52 : decode cX5_digestOfPairs 52 = .ok (.lload 4, 2) := by decide +kernel
theorem dX5_digestOfPairs_54 : decode cX5_digestOfPairs 54 = .ok (.lreturn, 1) := by decide +kernel
theorem dX5_within_0 : decode cX5_within 0 = .ok (.iload_n 0, 1) := by decide +kernel
theorem dX5_within_1 : decode cX5_within 1 = .ok (.ifCond .lt 12, 3) := by decide +kernel
theorem dX5_within_4 : decode cX5_within 4 = .ok (.iload_n 0, 1) := by decide +kernel
theorem dX5_within_5 : decode cX5_within 5 = .ok (.iload_n 1, 1) := by decide +kernel
theorem dX5_within_6 : decode cX5_within 6 = .ok (.if_icmp .ge 7, 3) := by decide +kernel
theorem dX5_within_9 : decode cX5_within 9 = .ok (.iconst 1, 1) := by decide +kernel
theorem dX5_within_10 : decode cX5_within 10 = .ok (.goto 4, 3) := by decide +kernel
theorem dX5_within_13 : decode cX5_within 13 = .ok (.iconst 0, 1) := by decide +kernel
theorem dX5_within_14 : decode cX5_within 14 = .ok (.ireturn, 1) := by decide +kernel
set_option maxRecDepth 20000 in
theorem ggX5_isMask_X5_within : GoodIn wsX5_isMask wsX5_within := goodIn_r _ [4] (by decide +kernel) (by decide +kernel)
set_option maxRecDepth 20000 in
theorem gX5_isMask_X5_within : GoodIn wsX5_isMask (va_wsS RX5 66 yX5_within wsX5_within) := goodIn_app (goodIn_of _ (by decide +kernel)) ggX5_isMask_X5_within
theorem dX5_isMask_0 : decode cX5_isMask 0 = .ok (.iload_n 0, 1) := by decide +kernel
theorem dX5_isMask_1 : decode cX5_isMask 1 = .ok (.iconst 4, 1) := by decide +kernel
theorem dX5_isMask_2 : decode cX5_isMask 2 = .ok (.invokestatic 66, 3) := by decide +kernel
theorem dX5_isMask_5 : decode cX5_isMask 5 = .ok (.ireturn, 1) := by decide +kernel
set_option maxRecDepth 20000 in
theorem ggX5_isCell_X5_within : GoodIn wsX5_isCell wsX5_within := goodIn_r _ [4] (by decide +kernel) (by decide +kernel)
set_option maxRecDepth 20000 in
theorem gX5_isCell_X5_within : GoodIn wsX5_isCell (va_wsS RX5 66 yX5_within wsX5_within) := goodIn_app (goodIn_of _ (by decide +kernel)) ggX5_isCell_X5_within
theorem dX5_isCell_0 : decode cX5_isCell 0 = .ok (.iload_n 0, 1) := by decide +kernel
theorem dX5_isCell_1 : decode cX5_isCell 1 = .ok (.bipush 16, 2) := by decide +kernel
theorem dX5_isCell_3 : decode cX5_isCell 3 = .ok (.invokestatic 66, 3) := by decide +kernel
theorem dX5_isCell_6 : decode cX5_isCell 6 = .ok (.ifCond .eq 16, 3) := by decide +kernel
theorem dX5_isCell_9 : decode cX5_isCell 9 = .ok (.iload_n 1, 1) := by decide +kernel
theorem dX5_isCell_10 : decode cX5_isCell 10 = .ok (.bipush 16, 2) := by decide +kernel
theorem dX5_isCell_12 : decode cX5_isCell 12 = .ok (.invokestatic 66, 3) := by decide +kernel
theorem dX5_isCell_15 : decode cX5_isCell 15 = .ok (.ifCond .eq 7, 3) := by decide +kernel
theorem dX5_isCell_18 : decode cX5_isCell 18 = .ok (.iconst 1, 1) := by decide +kernel
theorem dX5_isCell_19 : decode cX5_isCell 19 = .ok (.goto 4, 3) := by decide +kernel
theorem dX5_isCell_22 : decode cX5_isCell 22 = .ok (.iconst 0, 1) := by decide +kernel
theorem dX5_isCell_23 : decode cX5_isCell 23 = .ok (.ireturn, 1) := by decide +kernel
theorem dX5_isMove_0 : decode cX5_isMove 0 = .ok (.iload_n 0, 1) := by decide +kernel
theorem dX5_isMove_1 : decode cX5_isMove 1 = .ok (.bipush (-16), 2) := by decide +kernel
theorem dX5_isMove_3 : decode cX5_isMove 3 = .ok (.if_icmp .lt 13, 3) := by decide +kernel
theorem dX5_isMove_6 : decode cX5_isMove 6 = .ok (.iload_n 0, 1) := by decide +kernel
theorem dX5_isMove_7 : decode cX5_isMove 7 = .ok (.bipush 16, 2) := by decide +kernel
theorem dX5_isMove_9 : decode cX5_isMove 9 = .ok (.if_icmp .gt 7, 3) := by decide +kernel
theorem dX5_isMove_12 : decode cX5_isMove 12 = .ok (.iconst 1, 1) := by decide +kernel
theorem dX5_isMove_13 : decode cX5_isMove 13 = .ok (.goto 4, 3) := by decide +kernel
theorem dX5_isMove_16 : decode cX5_isMove 16 = .ok (.iconst 0, 1) := by decide +kernel
theorem dX5_isMove_17 : decode cX5_isMove 17 = .ok (.ireturn, 1) := by decide +kernel
set_option maxRecDepth 20000 in
theorem ggX5_isSheet_X5_within : GoodIn wsX5_isSheet wsX5_within := goodIn_r _ [4] (by decide +kernel) (by decide +kernel)
set_option maxRecDepth 20000 in
theorem gX5_isSheet_X5_within : GoodIn wsX5_isSheet (va_wsS RX5 66 yX5_within wsX5_within) := goodIn_app (goodIn_of _ (by decide +kernel)) ggX5_isSheet_X5_within
theorem dX5_isSheet_0 : decode cX5_isSheet 0 = .ok (.iload_n 0, 1) := by decide +kernel
theorem dX5_isSheet_1 : decode cX5_isSheet 1 = .ok (.iconst 4, 1) := by decide +kernel
theorem dX5_isSheet_2 : decode cX5_isSheet 2 = .ok (.invokestatic 66, 3) := by decide +kernel
theorem dX5_isSheet_5 : decode cX5_isSheet 5 = .ok (.ireturn, 1) := by decide +kernel
theorem dX5_found_0 : decode cX5_found 0 = .ok (.aload_n 0, 1) := by decide +kernel
theorem dX5_found_1 : decode cX5_found 1 = .ok (.iload_n 1, 1) := by decide +kernel
theorem dX5_found_2 : decode cX5_found 2 = .ok (.putfield 53, 3) := by decide +kernel
theorem dX5_found_5 : decode cX5_found 5 = .ok (.bipush (-10), 2) := by decide +kernel
theorem dX5_found_7 : decode cX5_found 7 = .ok (.iload_n 1, 1) := by decide +kernel
theorem dX5_found_8 : decode cX5_found 8 = .ok (.isub, 1) := by decide +kernel
theorem dX5_found_9 : decode cX5_found 9 = .ok (.ireturn, 1) := by decide +kernel
