theorem dX6_init_0 : decode cX6_init 0 = .ok (.aload_n 0, 1) := by decide +kernel
theorem dX6_init_1 : decode cX6_init 1 = .ok (.invokespecial 1, 3) := by decide +kernel
theorem dX6_init_4 : decode cX6_init 4 = .ok (.aload_n 0, 1) := by decide +kernel
theorem dX6_init_5 : decode cX6_init 5 = .ok (.iconst 4, 1) := by decide +kernel
theorem dX6_init_6 : decode cX6_init 6 = .ok (.newarray .int, 2) := by decide +kernel
theorem dX6_init_8 : decode cX6_init 8 = .ok (.putfield 7, 3) := by decide +kernel
theorem dX6_init_11 : decode cX6_init 11 = .ok (.aload_n 0, 1) := by decide +kernel
theorem dX6_init_12 : decode cX6_init 12 = .ok (.iconst 4, 1) := by decide +kernel
theorem dX6_init_13 : decode cX6_init 13 = .ok (.newarray .int, 2) := by decide +kernel
theorem dX6_init_15 : decode cX6_init 15 = .ok (.putfield 13, 3) := by decide +kernel
theorem dX6_init_18 : decode cX6_init 18 = .ok (.aload_n 0, 1) := by decide +kernel
theorem dX6_init_19 : decode cX6_init 19 = .ok (.sipush 240, 3) := by decide +kernel
theorem dX6_init_22 : decode cX6_init 22 = .ok (.newarray .int, 2) := by decide +kernel
theorem dX6_init_24 : decode cX6_init 24 = .ok (.putfield 16, 3) := by decide +kernel
theorem dX6_init_27 : decode cX6_init 27 = .ok (.aload_n 0, 1) := by decide +kernel
theorem dX6_init_28 : decode cX6_init 28 = .ok (.bipush 60, 2) := by decide +kernel
theorem dX6_init_30 : decode cX6_init 30 = .ok (.newarray .int, 2) := by decide +kernel
theorem dX6_init_32 : decode cX6_init 32 = .ok (.putfield 19, 3) := by decide +kernel
theorem dX6_init_35 : decode cX6_init 35 = .ok (.aload_n 0, 1) := by decide +kernel
theorem dX6_init_36 : decode cX6_init 36 = .ok (.bipush 64, 2) := by decide +kernel
theorem dX6_init_38 : decode cX6_init 38 = .ok (.newarray .int, 2) := by decide +kernel
theorem dX6_init_40 : decode cX6_init 40 = .ok (.putfield 22, 3) := by decide +kernel
theorem dX6_init_43 : decode cX6_init 43 = .ok (.aload_n 0, 1) := by decide +kernel
theorem dX6_init_44 : decode cX6_init 44 = .ok (.bipush 16, 2) := by decide +kernel
theorem dX6_init_46 : decode cX6_init 46 = .ok (.newarray .int, 2) := by decide +kernel
theorem dX6_init_48 : decode cX6_init 48 = .ok (.putfield 25, 3) := by decide +kernel
theorem dX6_init_51 : decode cX6_init 51 = .ok (.aload_n 0, 1) := by decide +kernel
theorem dX6_init_52 : decode cX6_init 52 = .ok (.bipush 40, 2) := by decide +kernel
theorem dX6_init_54 : decode cX6_init 54 = .ok (.newarray .int, 2) := by decide +kernel
theorem dX6_init_56 : decode cX6_init 56 = .ok (.putfield 28, 3) := by decide +kernel
theorem dX6_init_59 : decode cX6_init 59 = .ok (.aload_n 0, 1) := by decide +kernel
theorem dX6_init_60 : decode cX6_init 60 = .ok (.sipush 640, 3) := by decide +kernel
theorem dX6_init_63 : decode cX6_init 63 = .ok (.newarray .int, 2) := by decide +kernel
theorem dX6_init_65 : decode cX6_init 65 = .ok (.putfield 31, 3) := by decide +kernel
theorem dX6_init_68 : decode cX6_init 68 = .ok (.aload_n 0, 1) := by decide +kernel
theorem dX6_init_69 : decode cX6_init 69 = .ok (.sipush 256, 3) := by decide +kernel
theorem dX6_init_72 : decode cX6_init 72 = .ok (.newarray .int, 2) := by decide +kernel
theorem dX6_init_74 : decode cX6_init 74 = .ok (.putfield 34, 3) := by decide +kernel
theorem dX6_init_77 : decode cX6_init 77 = .ok (.aload_n 0, 1) := by decide +kernel
theorem dX6_init_78 : decode cX6_init 78 = .ok (.sipush 256, 3) := by decide +kernel
theorem dX6_init_81 : decode cX6_init 81 = .ok (.newarray .int, 2) := by decide +kernel
theorem dX6_init_83 : decode cX6_init 83 = .ok (.putfield 37, 3) := by decide +kernel
theorem dX6_init_86 : decode cX6_init 86 = .ok (.aload_n 0, 1) := by decide +kernel
theorem dX6_init_87 : decode cX6_init 87 = .ok (.bipush 16, 2) := by decide +kernel
theorem dX6_init_89 : decode cX6_init 89 = .ok (.newarray .int, 2) := by decide +kernel
theorem dX6_init_91 : decode cX6_init 91 = .ok (.putfield 40, 3) := by decide +kernel
theorem dX6_init_94 : decode cX6_init 94 = .ok (.aload_n 0, 1) := by decide +kernel
theorem dX6_init_95 : decode cX6_init 95 = .ok (.bipush 16, 2) := by decide +kernel
theorem dX6_init_97 : decode cX6_init 97 = .ok (.newarray .int, 2) := by decide +kernel
theorem dX6_init_99 : decode cX6_init 99 = .ok (.putfield 43, 3) := by decide +kernel
theorem dX6_init_102 : decode cX6_init 102 = .ok (.aload_n 0, 1) := by decide +kernel
theorem dX6_init_103 : decode cX6_init 103 = .ok (.bipush 16, 2) := by decide +kernel
theorem dX6_init_105 : decode cX6_init 105 = .ok (.newarray .int, 2) := by decide +kernel
theorem dX6_init_107 : decode cX6_init 107 = .ok (.putfield 46, 3) := by decide +kernel
theorem dX6_init_110 : decode cX6_init 110 = .ok (.aload_n 0, 1) := by decide +kernel
theorem dX6_init_111 : decode cX6_init 111 = .ok (.sipush 341, 3) := by decide +kernel
theorem dX6_init_114 : decode cX6_init 114 = .ok (.newarray .int, 2) := by decide +kernel
theorem dX6_init_116 : decode cX6_init 116 = .ok (.putfield 49, 3) := by decide +kernel
theorem dX6_init_119 : decode cX6_init 119 = .ok (.aload_n 0, 1) := by decide +kernel
theorem dX6_init_120 : decode cX6_init 120 = .ok (.iconst 4, 1) := by decide +kernel
theorem dX6_init_121 : decode cX6_init 121 = .ok (.newarray .int, 2) := by decide +kernel
theorem dX6_init_123 : decode cX6_init 123 = .ok (.putfield 52, 3) := by decide +kernel
theorem dX6_init_126 : decode cX6_init 126 = .ok (.iconst 0, 1) := by decide +kernel
theorem dX6_init_127 : decode cX6_init 127 = .ok (.istore_n 1, 1) := by decide +kernel
theorem dX6_init_128 : decode cX6_init 128 = .ok (.iload_n 1, 1) := by decide +kernel
theorem dX6_init_129 : decode cX6_init 129 = .ok (.iconst 4, 1) := by decide +kernel
theorem dX6_init_130 : decode cX6_init 130 = .ok (.if_icmp .ge 16, 3) := by decide +kernel
theorem dX6_init_133 : decode cX6_init 133 = .ok (.aload_n 0, 1) := by decide +kernel
theorem dX6_init_134 : decode cX6_init 134 = .ok (.getfield 7, 3) := by decide +kernel
theorem dX6_init_137 : decode cX6_init 137 = .ok (.iload_n 1, 1) := by decide +kernel
theorem dX6_init_138 : decode cX6_init 138 = .ok (.iconst (-1), 1) := by decide +kernel
theorem dX6_init_139 : decode cX6_init 139 = .ok (.iastore, 1) := by decide +kernel
theorem dX6_init_140 : decode cX6_init 140 = .ok (.iinc 1 1, 3) := by decide +kernel
theorem dX6_init_143 : decode cX6_init 143 = .ok (.goto (-15), 3) := by decide +kernel
theorem dX6_init_146 : decode cX6_init 146 = .ok (.return_, 1) := by decide +kernel
theorem dX6_in_0 : decode cX6_in 0 = .ok (.lload_n 0, 1) := by decide +kernel
theorem dX6_in_1 : decode cX6_in 1 = .ok (.lload_n 2, 1) := by decide +kernel
theorem dX6_in_2 : decode cX6_in 2 = .ok (.lcmp, 1) := by decide +kernel
theorem dX6_in_3 : decode cX6_in 3 = .ok (.ifCond .lt 14, 3) := by decide +kernel
theorem dX6_in_6 : decode cX6_in 6 = .ok (.lload_n 0, 1) := by decide +kernel
theorem dX6_in_7 : decode cX6_in 7 = .ok (.lload 4, 2) := by decide +kernel
theorem dX6_in_9 : decode cX6_in 9 = .ok (.lcmp, 1) := by decide +kernel
theorem dX6_in_10 : decode cX6_in 10 = .ok (.ifCond .gt 7, 3) := by decide +kernel
theorem dX6_in_13 : decode cX6_in 13 = .ok (.iconst 1, 1) := by decide +kernel
theorem dX6_in_14 : decode cX6_in 14 = .ok (.goto 4, 3) := by decide +kernel
theorem dX6_in_17 : decode cX6_in 17 = .ok (.iconst 0, 1) := by decide +kernel
theorem dX6_in_18 : decode cX6_in 18 = .ok (.ireturn, 1) := by decide +kernel
set_option maxRecDepth 20000 in
theorem ggX6_isTwo_X6_in : GoodIn wsX6_isTwo wsX6_in := goodIn_r _ [4] (by decide +kernel) (by decide +kernel)
set_option maxRecDepth 20000 in
theorem gX6_isTwo_X6_in : GoodIn wsX6_isTwo (va_wsS RX6 55 yX6_in wsX6_in) := goodIn_app (goodIn_of _ (by decide +kernel)) ggX6_isTwo_X6_in
theorem dX6_isTwo_0 : decode cX6_isTwo 0 = .ok (.iload_n 0, 1) := by decide +kernel
theorem dX6_isTwo_1 : decode cX6_isTwo 1 = .ok (.i2l, 1) := by decide +kernel
theorem dX6_isTwo_2 : decode cX6_isTwo 2 = .ok (.lconst 0, 1) := by decide +kernel
theorem dX6_isTwo_3 : decode cX6_isTwo 3 = .ok (.lconst 1, 1) := by decide +kernel
theorem dX6_isTwo_4 : decode cX6_isTwo 4 = .ok (.invokestatic 55, 3) := by decide +kernel
theorem dX6_isTwo_7 : decode cX6_isTwo 7 = .ok (.ireturn, 1) := by decide +kernel
theorem dX6_lesser_0 : decode cX6_lesser 0 = .ok (.iload_n 0, 1) := by decide +kernel
theorem dX6_lesser_1 : decode cX6_lesser 1 = .ok (.iload_n 1, 1) := by decide +kernel
theorem dX6_lesser_2 : decode cX6_lesser 2 = .ok (.if_icmp .ge 7, 3) := by decide +kernel
theorem dX6_lesser_5 : decode cX6_lesser 5 = .ok (.iload_n 0, 1) := by decide +kernel
theorem dX6_lesser_6 : decode cX6_lesser 6 = .ok (.goto 4, 3) := by decide +kernel
theorem dX6_lesser_9 : decode cX6_lesser 9 = .ok (.iload_n 1, 1) := by decide +kernel
theorem dX6_lesser_10 : decode cX6_lesser 10 = .ok (.ireturn, 1) := by decide +kernel
theorem dX6_greater_0 : decode cX6_greater 0 = .ok (.iload_n 0, 1) := by decide +kernel
theorem dX6_greater_1 : decode cX6_greater 1 = .ok (.iload_n 1, 1) := by decide +kernel
theorem dX6_greater_2 : decode cX6_greater 2 = .ok (.if_icmp .le 7, 3) := by decide +kernel
theorem dX6_greater_5 : decode cX6_greater 5 = .ok (.iload_n 0, 1) := by decide +kernel
theorem dX6_greater_6 : decode cX6_greater 6 = .ok (.goto 4, 3) := by decide +kernel
theorem dX6_greater_9 : decode cX6_greater 9 = .ok (.iload_n 1, 1) := by decide +kernel
theorem dX6_greater_10 : decode cX6_greater 10 = .ok (.ireturn, 1) := by decide +kernel
theorem dX6_finds_0 : decode cX6_finds 0 = .ok (.aload_n 0, 1) := by decide +kernel
theorem dX6_finds_1 : decode cX6_finds 1 = .ok (.iload_n 1, 1) := by decide +kernel
theorem dX6_finds_2 : decode cX6_finds 2 = .ok (.putfield 59, 3) := by decide +kernel
theorem dX6_finds_5 : decode cX6_finds 5 = .ok (.bipush (-10), 2) := by decide +kernel
theorem dX6_finds_7 : decode cX6_finds 7 = .ok (.iload_n 1, 1) := by decide +kernel
theorem dX6_finds_8 : decode cX6_finds 8 = .ok (.isub, 1) := by decide +kernel
theorem dX6_finds_9 : decode cX6_finds 9 = .ok (.ireturn, 1) := by decide +kernel
set_option maxRecDepth 20000 in
theorem ggX6_isSheet_X6_in : GoodIn wsX6_isSheet wsX6_in := goodIn_r _ [5] (by decide +kernel) (by decide +kernel)
set_option maxRecDepth 20000 in
theorem gX6_isSheet_X6_in : GoodIn wsX6_isSheet (va_wsS RX6 55 yX6_in wsX6_in) := goodIn_app (goodIn_of _ (by decide +kernel)) ggX6_isSheet_X6_in
theorem dX6_isSheet_0 : decode cX6_isSheet 0 = .ok (.iload_n 0, 1) := by decide +kernel
theorem dX6_isSheet_1 : decode cX6_isSheet 1 = .ok (.i2l, 1) := by decide +kernel
theorem dX6_isSheet_2 : decode cX6_isSheet 2 = .ok (.lconst 0, 1) := by decide +kernel
theorem dX6_isSheet_3 : decode cX6_isSheet 3 = .ok (.ldc2_w 63, 3) := by decide +kernel
theorem dX6_isSheet_6 : decode cX6_isSheet 6 = .ok (.invokestatic 55, 3) := by decide +kernel
theorem dX6_isSheet_9 : decode cX6_isSheet 9 = .ok (.ireturn, 1) := by decide +kernel
set_option maxRecDepth 20000 in
theorem ggX6_sheet_X6_isSheet : GoodIn wsX6_sheet wsX6_isSheet := goodIn_r _ [8, 9, 10, 11, 7, 12] (by decide +kernel) (by decide +kernel)
set_option maxRecDepth 20000 in
theorem gX6_sheet_X6_isSheet : GoodIn wsX6_sheet (va_wsS RX6 65 yX6_isSheet wsX6_isSheet) := goodIn_app (goodIn_of _ (by decide +kernel)) ggX6_sheet_X6_isSheet
set_option maxRecDepth 20000 in
theorem ggX6_sheet_X6_in : GoodIn wsX6_sheet wsX6_in := goodIn_r _ [12] (by decide +kernel) (by decide +kernel)
set_option maxRecDepth 20000 in
theorem gX6_sheet_X6_in : GoodIn wsX6_sheet (va_wsS RX6 55 yX6_in wsX6_in) := goodIn_app (goodIn_of _ (by decide +kernel)) ggX6_sheet_X6_in
set_option maxRecDepth 20000 in
theorem ggX6_sheet_X6_finds : GoodIn wsX6_sheet wsX6_finds := goodIn_r _ [16, 17, 18, 19, 20, 21, 22, 23, 24, 25, 26, 27, 28, 29, 30, 31, 32, 33, 34, 35, 36, 37, 38] (by decide +kernel) (by decide +kernel)
set_option maxRecDepth 20000 in
theorem gX6_sheet_X6_finds : GoodIn wsX6_sheet (wsV RX6 71 RX6 yX6_finds wsX6_finds) := goodIn_app (goodIn_of _ (by decide +kernel)) ggX6_sheet_X6_finds
theorem dX6_sheet_0 : decode cX6_sheet 0 = .ok (.iload_n 1, 1) := by decide +kernel
theorem dX6_sheet_1 : decode cX6_sheet 1 = .ok (.invokestatic 65, 3) := by decide +kernel
theorem dX6_sheet_4 : decode cX6_sheet 4 = .ok (.ifCond .eq 21, 3) := by decide +kernel
theorem dX6_sheet_7 : decode cX6_sheet 7 = .ok (.iload_n 2, 1) := by decide +kernel
theorem dX6_sheet_8 : decode cX6_sheet 8 = .ok (.i2l, 1) := by decide +kernel
theorem dX6_sheet_9 : decode cX6_sheet 9 = .ok (.lconst 0, 1) := by decide +kernel
theorem dX6_sheet_10 : decode cX6_sheet 10 = .ok (.ldc2_w 69, 3) := by decide +kernel
theorem dX6_sheet_13 : decode cX6_sheet 13 = .ok (.invokestatic 55, 3) := by decide +kernel
theorem dX6_sheet_16 : decode cX6_sheet 16 = .ok (.ifCond .eq 9, 3) := by decide +kernel
theorem dX6_sheet_19 : decode cX6_sheet 19 = .ok (.iload_n 3, 1) := by decide +kernel
theorem dX6_sheet_20 : decode cX6_sheet 20 = .ok (.bipush 60, 2) := by decide +kernel
theorem dX6_sheet_22 : decode cX6_sheet 22 = .ok (.if_icmp .le 6, 3) := by decide +kernel
theorem dX6_sheet_25 : decode cX6_sheet 25 = .ok (.bipush (-2), 2) := by decide +kernel
theorem dX6_sheet_27 : decode cX6_sheet 27 = .ok (.ireturn, 1) := by decide +kernel
theorem dX6_sheet_28 : decode cX6_sheet 28 = .ok (.iload_n 3, 1) := by decide +kernel
theorem dX6_sheet_29 : decode cX6_sheet 29 = .ok (.ifCond .ge 9, 3) := by decide +kernel
theorem dX6_sheet_32 : decode cX6_sheet 32 = .ok (.aload_n 0, 1) := by decide +kernel
theorem dX6_sheet_33 : decode cX6_sheet 33 = .ok (.iconst 5, 1) := by decide +kernel
theorem dX6_sheet_34 : decode cX6_sheet 34 = .ok (.invokevirtual 71, 3) := by decide +kernel
theorem dX6_sheet_37 : decode cX6_sheet 37 = .ok (.ireturn, 1) := by decide +kernel
theorem dX6_sheet_38 : decode cX6_sheet 38 = .ok (.aload_n 0, 1) := by decide +kernel
theorem dX6_sheet_39 : decode cX6_sheet 39 = .ok (.getfield 7, 3) := by decide +kernel
theorem dX6_sheet_42 : decode cX6_sheet 42 = .ok (.iload_n 1, 1) := by decide +kernel
theorem dX6_sheet_43 : decode cX6_sheet 43 = .ok (.iload_n 2, 1) := by decide +kernel
theorem dX6_sheet_44 : decode cX6_sheet 44 = .ok (.iastore, 1) := by decide +kernel
theorem dX6_sheet_45 : decode cX6_sheet 45 = .ok (.aload_n 0, 1) := by decide +kernel
theorem dX6_sheet_46 : decode cX6_sheet 46 = .ok (.getfield 13, 3) := by decide +kernel
theorem dX6_sheet_49 : decode cX6_sheet 49 = .ok (.iload_n 1, 1) := by decide +kernel
theorem dX6_sheet_50 : decode cX6_sheet 50 = .ok (.iload_n 3, 1) := by decide +kernel
theorem dX6_sheet_51 : decode cX6_sheet 51 = .ok (.iastore, 1) := by decide +kernel
theorem dX6_sheet_52 : decode cX6_sheet 52 = .ok (.iconst 0, 1) := by decide +kernel
theorem dX6_sheet_53 : decode cX6_sheet 53 = .ok (.istore 4, 2) := by decide +kernel
theorem dX6_sheet_55 : decode cX6_sheet 55 = .ok (.iload 4, 2) := by decide +kernel
theorem dX6_sheet_57 : decode cX6_sheet 57 = .ok (.iload_n 3, 1) := by decide +kernel
theorem dX6_sheet_58 : decode cX6_sheet 58 = .ok (.if_icmp .ge 22, 3) := by decide +kernel
theorem dX6_sheet_61 : decode cX6_sheet 61 = .ok (.aload_n 0, 1) := by decide +kernel
theorem dX6_sheet_62 : decode cX6_sheet 62 = .ok (.getfield 16, 3) := by decide +kernel
theorem dX6_sheet_65 : decode cX6_sheet 65 = .ok (.bipush 60, 2) := by decide +kernel
theorem dX6_sheet_67 : decode cX6_sheet 67 = .ok (.iload_n 1, 1) := by decide +kernel
theorem dX6_sheet_68 : decode cX6_sheet 68 = .ok (.imul, 1) := by decide +kernel
theorem dX6_sheet_69 : decode cX6_sheet 69 = .ok (.iload 4, 2) := by decide +kernel
theorem dX6_sheet_71 : decode cX6_sheet 71 = .ok (.iadd, 1) := by decide +kernel
theorem dX6_sheet_72 : decode cX6_sheet 72 = .ok (.iconst 0, 1) := by decide +kernel
theorem dX6_sheet_73 : decode cX6_sheet 73 = .ok (.iastore, 1) := by decide +kernel
theorem dX6_sheet_74 : decode cX6_sheet 74 = .ok (.iinc 4 1, 3) := by decide +kernel
theorem dX6_sheet_77 : decode cX6_sheet 77 = .ok (.goto (-22), 3) := by decide +kernel
theorem dX6_sheet_80 : decode cX6_sheet 80 = .ok (.iload_n 3, 1) := by decide +kernel
theorem dX6_sheet_81 : decode cX6_sheet 81 = .ok (.ireturn, 1) := by decide +kernel
set_option maxRecDepth 20000 in
theorem ggX6_lose_X6_isSheet : GoodIn wsX6_lose wsX6_isSheet := goodIn_r _ [6, 7, 8, 9, 5, 10] (by decide +kernel) (by decide +kernel)
set_option maxRecDepth 20000 in
theorem gX6_lose_X6_isSheet : GoodIn wsX6_lose (va_wsS RX6 65 yX6_isSheet wsX6_isSheet) := goodIn_app (goodIn_of _ (by decide +kernel)) ggX6_lose_X6_isSheet
set_option maxRecDepth 20000 in
theorem ggX6_lose_X6_finds : GoodIn wsX6_lose wsX6_finds := goodIn_r _ [14, 15, 16, 17, 18, 19, 20, 21, 22, 23, 24, 25, 26, 27, 28, 29, 30, 31, 32, 33, 34, 35, 36] (by decide +kernel) (by decide +kernel)
set_option maxRecDepth 20000 in
theorem gX6_lose_X6_finds : GoodIn wsX6_lose (wsV RX6 71 RX6 yX6_finds wsX6_finds) := goodIn_app (goodIn_of _ (by decide +kernel)) ggX6_lose_X6_finds
theorem dX6_lose_0 : decode cX6_lose 0 = .ok (.iload_n 1, 1) := by decide +kernel
theorem dX6_lose_1 : decode cX6_lose 1 = .ok (.invokestatic 65, 3) := by decide +kernel
theorem dX6_lose_4 : decode cX6_lose 4 = .ok (.ifCond .ne 6, 3) := by decide +kernel
theorem dX6_lose_7 : decode cX6_lose 7 = .ok (.bipush (-2), 2) := by decide +kernel
theorem dX6_lose_9 : decode cX6_lose 9 = .ok (.ireturn, 1) := by decide +kernel
theorem dX6_lose_10 : decode cX6_lose 10 = .ok (.aload_n 0, 1) := by decide +kernel
theorem dX6_lose_11 : decode cX6_lose 11 = .ok (.getfield 7, 3) := by decide +kernel
theorem dX6_lose_14 : decode cX6_lose 14 = .ok (.iload_n 1, 1) := by decide +kernel
theorem dX6_lose_15 : decode cX6_lose 15 = .ok (.iaload, 1) := by decide +kernel
theorem dX6_lose_16 : decode cX6_lose 16 = .ok (.ifCond .ge 9, 3) := by decide +kernel
theorem dX6_lose_19 : decode cX6_lose 19 = .ok (.aload_n 0, 1) := by decide +kernel
theorem dX6_lose_20 : decode cX6_lose 20 = .ok (.iconst 1, 1) := by decide +kernel
theorem dX6_lose_21 : decode cX6_lose 21 = .ok (.invokevirtual 71, 3) := by decide +kernel
theorem dX6_lose_24 : decode cX6_lose 24 = .ok (.ireturn, 1) := by decide +kernel
theorem dX6_lose_25 : decode cX6_lose 25 = .ok (.aload_n 0, 1) := by decide +kernel
theorem dX6_lose_26 : decode cX6_lose 26 = .ok (.getfield 7, 3) := by decide +kernel
theorem dX6_lose_29 : decode cX6_lose 29 = .ok (.iload_n 1, 1) := by decide +kernel
theorem dX6_lose_30 : decode cX6_lose 30 = .ok (.iconst (-1), 1) := by decide +kernel
theorem dX6_lose_31 : decode cX6_lose 31 = .ok (.iastore, 1) := by decide +kernel
theorem dX6_lose_32 : decode cX6_lose 32 = .ok (.aload_n 0, 1) := by decide +kernel
theorem dX6_lose_33 : decode cX6_lose 33 = .ok (.getfield 13, 3) := by decide +kernel
theorem dX6_lose_36 : decode cX6_lose 36 = .ok (.iload_n 1, 1) := by decide +kernel
theorem dX6_lose_37 : decode cX6_lose 37 = .ok (.iaload, 1) := by decide +kernel
theorem dX6_lose_38 : decode cX6_lose 38 = .ok (.ireturn, 1) := by decide +kernel
set_option maxRecDepth 20000 in
theorem ggX6_lacks_X6_finds : GoodIn wsX6_lacks wsX6_finds := goodIn_r _ [7, 8, 12, 13, 14, 15, 16, 17, 18, 19, 20, 21, 22, 23, 24, 25, 26, 27, 28, 29, 30, 31, 32] (by decide +kernel) (by decide +kernel)
set_option maxRecDepth 20000 in
theorem gX6_lacks_X6_finds : GoodIn wsX6_lacks (wsV RX6 71 RX6 yX6_finds wsX6_finds) := goodIn_app (goodIn_of _ (by decide +kernel)) ggX6_lacks_X6_finds
set_option maxRecDepth 20000 in
theorem ggX6_lacks_X6_in : GoodIn wsX6_lacks wsX6_in := goodIn_r _ [11] (by decide +kernel) (by decide +kernel)
set_option maxRecDepth 20000 in
theorem gX6_lacks_X6_in : GoodIn wsX6_lacks (va_wsS RX6 55 yX6_in wsX6_in) := goodIn_app (goodIn_of _ (by decide +kernel)) ggX6_lacks_X6_in
theorem dX6_lacks_0 : decode cX6_lacks 0 = .ok (.aload_n 0, 1) := by decide +kernel
theorem dX6_lacks_1 : decode cX6_lacks 1 = .ok (.getfield 7, 3) := by decide +kernel
theorem dX6_lacks_4 : decode cX6_lacks 4 = .ok (.iload_n 1, 1) := by decide +kernel
theorem dX6_lacks_5 : decode cX6_lacks 5 = .ok (.iaload, 1) := by decide +kernel
theorem dX6_lacks_6 : decode cX6_lacks 6 = .ok (.ifCond .ge 9, 3) := by decide +kernel
theorem dX6_lacks_9 : decode cX6_lacks 9 = .ok (.aload_n 0, 1) := by decide +kernel
theorem dX6_lacks_10 : decode cX6_lacks 10 = .ok (.iconst 1, 1) := by decide +kernel
theorem dX6_lacks_11 : decode cX6_lacks 11 = .ok (.invokevirtual 71, 3) := by decide +kernel
theorem dX6_lacks_14 : decode cX6_lacks 14 = .ok (.ireturn, 1) := by decide +kernel
theorem dX6_lacks_15 : decode cX6_lacks 15 = .ok (.aload_n 0, 1) := by decide +kernel
theorem dX6_lacks_16 : decode cX6_lacks 16 = .ok (.getfield 7, 3) := by decide +kernel
theorem dX6_lacks_19 : decode cX6_lacks 19 = .ok (.iload_n 1, 1) := by decide +kernel
theorem dX6_lacks_20 : decode cX6_lacks 20 = .ok (.iaload, 1) := by decide +kernel
theorem dX6_lacks_21 : decode cX6_lacks 21 = .ok (.iload_n 2, 1) := by decide +kernel
theorem dX6_lacks_22 : decode cX6_lacks 22 = .ok (.if_icmp .eq 9, 3) := by decide +kernel
theorem dX6_lacks_25 : decode cX6_lacks 25 = .ok (.aload_n 0, 1) := by decide +kernel
theorem dX6_lacks_26 : decode cX6_lacks 26 = .ok (.iconst 3, 1) := by decide +kernel
theorem dX6_lacks_27 : decode cX6_lacks 27 = .ok (.invokevirtual 71, 3) := by decide +kernel
theorem dX6_lacks_30 : decode cX6_lacks 30 = .ok (.ireturn, 1) := by decide +kernel
theorem dX6_lacks_31 : decode cX6_lacks 31 = .ok (.iload_n 3, 1) := by decide +kernel
theorem dX6_lacks_32 : decode cX6_lacks 32 = .ok (.i2l, 1) := by decide +kernel
theorem dX6_lacks_33 : decode cX6_lacks 33 = .ok (.lconst 0, 1) := by decide +kernel
theorem dX6_lacks_34 : decode cX6_lacks 34 = .ok (.aload_n 0, 1) := by decide +kernel
theorem dX6_lacks_35 : decode cX6_lacks 35 = .ok (.getfield 13, 3) := by decide +kernel
theorem dX6_lacks_38 : decode cX6_lacks 38 = .ok (.iload_n 1, 1) := by decide +kernel
theorem dX6_lacks_39 : decode cX6_lacks 39 = .ok (.iaload, 1) := by decide +kernel
theorem dX6_lacks_40 : decode cX6_lacks 40 = .ok (.iconst 1, 1) := by decide +kernel
theorem dX6_lacks_41 : decode cX6_lacks 41 = .ok (.isub, 1) := by decide +kernel
theorem dX6_lacks_42 : decode cX6_lacks 42 = .ok (.i2l, 1) := by decide +kernel
theorem dX6_lacks_43 : decode cX6_lacks 43 = .ok (.invokestatic 55, 3) := by decide +kernel
theorem dX6_lacks_46 : decode cX6_lacks 46 = .ok (.ifCond .eq 7, 3) := by decide +kernel
theorem dX6_lacks_49 : decode cX6_lacks 49 = .ok (.iconst 0, 1) := by decide +kernel
theorem dX6_lacks_50 : decode cX6_lacks 50 = .ok (.goto 8, 3) := by decide +kernel
theorem dX6_lacks_53 : decode cX6_lacks 53 = .ok (.aload_n 0, 1) := by decide +kernel
theorem dX6_lacks_54 : decode cX6_lacks 54 = .ok (.iconst 2, 1) := by decide +kernel
theorem dX6_lacks_55 : decode cX6_lacks 55 = .ok (.invokevirtual 71, 3) := by decide +kernel
theorem dX6_lacks_58 : decode cX6_lacks 58 = .ok (.ireturn, 1) := by decide +kernel
theorem dX6_cut_0 : decode cX6_cut 0 = .ok (.iload_n 0, 1) := by decide +kernel
theorem dX6_cut_1 : decode cX6_cut 1 = .ok (.ifCond .ne 8, 3) := by decide +kernel
theorem dX6_cut_4 : decode cX6_cut 4 = .ok (.iload_n 1, 1) := by decide +kernel
theorem dX6_cut_5 : decode cX6_cut 5 = .ok (.i2b, 1) := by decide +kernel
theorem dX6_cut_6 : decode cX6_cut 6 = .ok (.goto 14, 3) := by decide +kernel
theorem dX6_cut_9 : decode cX6_cut 9 = .ok (.iload_n 0, 1) := by decide +kernel
theorem dX6_cut_10 : decode cX6_cut 10 = .ok (.iconst 1, 1) := by decide +kernel
theorem dX6_cut_11 : decode cX6_cut 11 = .ok (.if_icmp .ne 8, 3) := by decide +kernel
theorem dX6_cut_14 : decode cX6_cut 14 = .ok (.iload_n 1, 1) := by decide +kernel
theorem dX6_cut_15 : decode cX6_cut 15 = .ok (.i2s, 1) := by decide +kernel
theorem dX6_cut_16 : decode cX6_cut 16 = .ok (.goto 4, 3) := by decide +kernel
theorem dX6_cut_19 : decode cX6_cut 19 = .ok (.iload_n 1, 1) := by decide +kernel
theorem dX6_cut_20 : decode cX6_cut 20 = .ok (.ireturn, 1) := by decide +kernel
set_option maxRecDepth 20000 in
theorem ggX6_lay_X6_isSheet : GoodIn wsX6_lay wsX6_isSheet := goodIn_r _ [6, 7, 8, 9, 5, 10] (by decide +kernel) (by decide +kernel)
set_option maxRecDepth 20000 in
theorem gX6_lay_X6_isSheet : GoodIn wsX6_lay (va_wsS RX6 65 yX6_isSheet wsX6_isSheet) := goodIn_app (goodIn_of _ (by decide +kernel)) ggX6_lay_X6_isSheet
set_option maxRecDepth 20000 in
theorem ggX6_lay_X6_in : GoodIn wsX6_lay wsX6_in := goodIn_r _ [10] (by decide +kernel) (by decide +kernel)
set_option maxRecDepth 20000 in
theorem gX6_lay_X6_in : GoodIn wsX6_lay (va_wsS RX6 55 yX6_in wsX6_in) := goodIn_app (goodIn_of _ (by decide +kernel)) ggX6_lay_X6_in
set_option maxRecDepth 20000 in
theorem ggX6_lay_X6_lacks : GoodIn wsX6_lay wsX6_lacks := goodIn_r _ [14, 15, 16, 17, 18, 19, 5, 20, 21, 8, 9, 10, 25, 26, 27, 28, 29, 30, 31, 32, 33, 34, 35, 36, 37, 38, 39, 40, 41, 42, 43, 44, 45] (by decide +kernel) (by decide +kernel)
set_option maxRecDepth 20000 in
theorem gX6_lay_X6_lacks : GoodIn wsX6_lay (wsV RX6 75 RX6 yX6_lacks wsX6_lacks) := goodIn_app (goodIn_of _ (by decide +kernel)) ggX6_lay_X6_lacks
set_option maxRecDepth 20000 in
theorem ggX6_lay_X6_cut : GoodIn wsX6_lay wsX6_cut := goodIn_r _ [24] (by decide +kernel) (by decide +kernel)
set_option maxRecDepth 20000 in
theorem gX6_lay_X6_cut : GoodIn wsX6_lay (va_wsS RX6 79 yX6_cut wsX6_cut) := goodIn_app (goodIn_of _ (by decide +kernel)) ggX6_lay_X6_cut
theorem dX6_lay_0 : decode cX6_lay 0 = .ok (.iload_n 1, 1) := by decide +kernel
theorem dX6_lay_1 : decode cX6_lay 1 = .ok (.invokestatic 65, 3) := by decide +kernel
theorem dX6_lay_4 : decode cX6_lay 4 = .ok (.ifCond .eq 15, 3) := by decide +kernel
theorem dX6_lay_7 : decode cX6_lay 7 = .ok (.iload_n 2, 1) := by decide +kernel
theorem dX6_lay_8 : decode cX6_lay 8 = .ok (.i2l, 1) := by decide +kernel
theorem dX6_lay_9 : decode cX6_lay 9 = .ok (.lconst 0, 1) := by decide +kernel
theorem dX6_lay_10 : decode cX6_lay 10 = .ok (.ldc2_w 69, 3) := by decide +kernel
theorem dX6_lay_13 : decode cX6_lay 13 = .ok (.invokestatic 55, 3) := by decide +kernel
theorem dX6_lay_16 : decode cX6_lay 16 = .ok (.ifCond .ne 6, 3) := by decide +kernel
theorem dX6_lay_19 : decode cX6_lay 19 = .ok (.bipush (-2), 2) := by decide +kernel
theorem dX6_lay_21 : decode cX6_lay 21 = .ok (.ireturn, 1) := by decide +kernel
theorem dX6_lay_22 : decode cX6_lay 22 = .ok (.aload_n 0, 1) := by decide +kernel
theorem dX6_lay_23 : decode cX6_lay 23 = .ok (.iload_n 1, 1) := by decide +kernel
theorem dX6_lay_24 : decode cX6_lay 24 = .ok (.iload_n 2, 1) := by decide +kernel
theorem dX6_lay_25 : decode cX6_lay 25 = .ok (.iload_n 3, 1) := by decide +kernel
theorem dX6_lay_26 : decode cX6_lay 26 = .ok (.invokevirtual 75, 3) := by decide +kernel
theorem dX6_lay_29 : decode cX6_lay 29 = .ok (.istore 5, 2) := by decide +kernel
theorem dX6_lay_31 : decode cX6_lay 31 = .ok (.iload 5, 2) := by decide +kernel
theorem dX6_lay_33 : decode cX6_lay 33 = .ok (.ifCond .eq 6, 3) := by decide +kernel
theorem dX6_lay_36 : decode cX6_lay 36 = .ok (.iload 5, 2) := by decide +kernel
theorem dX6_lay_38 : decode cX6_lay 38 = .ok (.ireturn, 1) := by decide +kernel
theorem dX6_lay_39 : decode cX6_lay 39 = .ok (.aload_n 0, 1) := by decide +kernel
theorem dX6_lay_40 : decode cX6_lay 40 = .ok (.getfield 16, 3) := by decide +kernel
theorem dX6_lay_43 : decode cX6_lay 43 = .ok (.bipush 60, 2) := by decide +kernel
theorem dX6_lay_45 : decode cX6_lay 45 = .ok (.iload_n 1, 1) := by decide +kernel
theorem dX6_lay_46 : decode cX6_lay 46 = .ok (.imul, 1) := by decide +kernel
theorem dX6_lay_47 : decode cX6_lay 47 = .ok (.iload_n 3, 1) := by decide +kernel
theorem dX6_lay_48 : decode cX6_lay 48 = .ok (.iadd, 1) := by decide +kernel
theorem dX6_lay_49 : decode cX6_lay 49 = .ok (.iload_n 2, 1) := by decide +kernel
theorem dX6_lay_50 : decode cX6_lay 50 = .ok (.iload 4, 2) := by decide +kernel
theorem dX6_lay_52 : decode cX6_lay 52 = .ok (.invokestatic 79, 3) := by decide +kernel
theorem dX6_lay_55 : decode cX6_lay 55 = .ok (.iastore, 1) := by decide +kernel
theorem dX6_lay_56 : decode cX6_lay 56 = .ok (.iconst 1, 1) := by decide +kernel
theorem dX6_lay_57 : decode cX6_lay 57 = .ok (.ireturn, 1) := by decide +kernel
set_option maxRecDepth 20000 in
theorem ggX6_get_X6_isSheet : GoodIn wsX6_get wsX6_isSheet := goodIn_r _ [7, 8, 9, 10, 6, 11] (by decide +kernel) (by decide +kernel)
set_option maxRecDepth 20000 in
theorem gX6_get_X6_isSheet : GoodIn wsX6_get (va_wsS RX6 65 yX6_isSheet wsX6_isSheet) := goodIn_app (goodIn_of _ (by decide +kernel)) ggX6_get_X6_isSheet
set_option maxRecDepth 20000 in
theorem ggX6_get_X6_in : GoodIn wsX6_get wsX6_in := goodIn_r _ [11] (by decide +kernel) (by decide +kernel)
set_option maxRecDepth 20000 in
theorem gX6_get_X6_in : GoodIn wsX6_get (va_wsS RX6 55 yX6_in wsX6_in) := goodIn_app (goodIn_of _ (by decide +kernel)) ggX6_get_X6_in
set_option maxRecDepth 20000 in
theorem ggX6_get_X6_lacks : GoodIn wsX6_get wsX6_lacks := goodIn_r _ [15, 16, 17, 18, 19, 20, 6, 21, 22, 9, 10, 11, 23, 24, 25, 26, 27, 28, 29, 30, 31, 32, 33, 34, 35, 36, 37, 38, 39, 40, 41, 42, 43] (by decide +kernel) (by decide +kernel)
set_option maxRecDepth 20000 in
theorem gX6_get_X6_lacks : GoodIn wsX6_get (wsV RX6 75 RX6 yX6_lacks wsX6_lacks) := goodIn_app (goodIn_of _ (by decide +kernel)) ggX6_get_X6_lacks
theorem dX6_get_0 : decode cX6_get 0 = .ok (.iload_n 1, 1) := by decide +kernel
theorem dX6_get_1 : decode cX6_get 1 = .ok (.invokestatic 65, 3) := by decide +kernel
theorem dX6_get_4 : decode cX6_get 4 = .ok (.ifCond .eq 25, 3) := by decide +kernel
theorem dX6_get_7 : decode cX6_get 7 = .ok (.iload_n 2, 1) := by decide +kernel
theorem dX6_get_8 : decode cX6_get 8 = .ok (.i2l, 1) := by decide +kernel
theorem dX6_get_9 : decode cX6_get 9 = .ok (.lconst 0, 1) := by decide +kernel
theorem dX6_get_10 : decode cX6_get 10 = .ok (.ldc2_w 69, 3) := by decide +kernel
theorem dX6_get_13 : decode cX6_get 13 = .ok (.invokestatic 55, 3) := by decide +kernel
theorem dX6_get_16 : decode cX6_get 16 = .ok (.ifCond .eq 13, 3) := by decide +kernel
theorem dX6_get_19 : decode cX6_get 19 = .ok (.aload_n 0, 1) := by decide +kernel
theorem dX6_get_20 : decode cX6_get 20 = .ok (.iload_n 1, 1) := by decide +kernel
theorem dX6_get_21 : decode cX6_get 21 = .ok (.iload_n 2, 1) := by decide +kernel
theorem dX6_get_22 : decode cX6_get 22 = .ok (.iload_n 3, 1) := by decide +kernel
theorem dX6_get_23 : decode cX6_get 23 = .ok (.invokevirtual 75, 3) := by decide +kernel
theorem dX6_get_26 : decode cX6_get 26 = .ok (.ifCond .eq 6, 3) := by decide +kernel
theorem dX6_get_29 : decode cX6_get 29 = .ok (.ldc 83, 2) := by decide +kernel
theorem dX6_get_31 : decode cX6_get 31 = .ok (.ireturn, 1) := by decide +kernel
theorem dX6_get_32 : decode cX6_get 32 = .ok (.aload_n 0, 1) := by decide +kernel
theorem dX6_get_33 : decode cX6_get 33 = .ok (.getfield 16, 3) := by decide +kernel
theorem dX6_get_36 : decode cX6_get 36 = .ok (.bipush 60, 2) := by decide +kernel
theorem dX6_get_38 : decode cX6_get 38 = .ok (.iload_n 1, 1) := by decide +kernel
theorem dX6_get_39 : decode cX6_get 39 = .ok (.imul, 1) := by decide +kernel
theorem dX6_get_40 : decode cX6_get 40 = .ok (.iload_n 3, 1) := by decide +kernel
theorem dX6_get_41 : decode cX6_get 41 = .ok (.iadd, 1) := by decide +kernel
theorem dX6_get_42 : decode cX6_get 42 = .ok (.iaload, 1) := by decide +kernel
theorem dX6_get_43 : decode cX6_get 43 = .ok (.ireturn, 1) := by decide +kernel
set_option maxRecDepth 20000 in
theorem ggX6_copy_X6_isSheet : GoodIn wsX6_copy wsX6_isSheet := goodIn_r _ [8, 9, 10, 11, 7, 12] (by decide +kernel) (by decide +kernel)
set_option maxRecDepth 20000 in
theorem gX6_copy_X6_isSheet : GoodIn wsX6_copy (va_wsS RX6 65 yX6_isSheet wsX6_isSheet) := goodIn_app (goodIn_of _ (by decide +kernel)) ggX6_copy_X6_isSheet
set_option maxRecDepth 20000 in
theorem ggX6_copy_X6_finds : GoodIn wsX6_copy wsX6_finds := goodIn_r _ [16, 17, 18, 19, 20, 21, 22, 23, 24, 25, 26, 27, 28, 29, 30, 31, 32, 33, 34, 35, 36, 37, 38] (by decide +kernel) (by decide +kernel)
set_option maxRecDepth 20000 in
theorem gX6_copy_X6_finds : GoodIn wsX6_copy (wsV RX6 71 RX6 yX6_finds wsX6_finds) := goodIn_app (goodIn_of _ (by decide +kernel)) ggX6_copy_X6_finds
theorem dX6_copy_0 : decode cX6_copy 0 = .ok (.iload_n 1, 1) := by decide +kernel
theorem dX6_copy_1 : decode cX6_copy 1 = .ok (.invokestatic 65, 3) := by decide +kernel
theorem dX6_copy_4 : decode cX6_copy 4 = .ok (.ifCond .eq 10, 3) := by decide +kernel
theorem dX6_copy_7 : decode cX6_copy 7 = .ok (.iload_n 3, 1) := by decide +kernel
theorem dX6_copy_8 : decode cX6_copy 8 = .ok (.invokestatic 65, 3) := by decide +kernel
theorem dX6_copy_11 : decode cX6_copy 11 = .ok (.ifCond .ne 6, 3) := by decide +kernel
theorem dX6_copy_14 : decode cX6_copy 14 = .ok (.bipush (-2), 2) := by decide +kernel
theorem dX6_copy_16 : decode cX6_copy 16 = .ok (.ireturn, 1) := by decide +kernel
theorem dX6_copy_17 : decode cX6_copy 17 = .ok (.aload_n 0, 1) := by decide +kernel
theorem dX6_copy_18 : decode cX6_copy 18 = .ok (.getfield 7, 3) := by decide +kernel
theorem dX6_copy_21 : decode cX6_copy 21 = .ok (.iload_n 1, 1) := by decide +kernel
theorem dX6_copy_22 : decode cX6_copy 22 = .ok (.iaload, 1) := by decide +kernel
theorem dX6_copy_23 : decode cX6_copy 23 = .ok (.ifCond .lt 12, 3) := by decide +kernel
theorem dX6_copy_26 : decode cX6_copy 26 = .ok (.aload_n 0, 1) := by decide +kernel
theorem dX6_copy_27 : decode cX6_copy 27 = .ok (.getfield 7, 3) := by decide +kernel
theorem dX6_copy_30 : decode cX6_copy 30 = .ok (.iload_n 3, 1) := by decide +kernel
theorem dX6_copy_31 : decode cX6_copy 31 = .ok (.iaload, 1) := by decide +kernel
theorem dX6_copy_32 : decode cX6_copy 32 = .ok (.ifCond .ge 9, 3) := by decide +kernel
theorem dX6_copy_35 : decode cX6_copy 35 = .ok (.aload_n 0, 1) := by decide +kernel
theorem dX6_copy_36 : decode cX6_copy 36 = .ok (.iconst 1, 1) := by decide +kernel
theorem dX6_copy_37 : decode cX6_copy 37 = .ok (.invokevirtual 71, 3) := by decide +kernel
theorem dX6_copy_40 : decode cX6_copy 40 = .ok (.ireturn, 1) := by decide +kernel
theorem dX6_copy_41 : decode cX6_copy 41 = .ok (.aload_n 0, 1) := by decide +kernel
theorem dX6_copy_42 : decode cX6_copy 42 = .ok (.getfield 7, 3) := by decide +kernel
theorem dX6_copy_45 : decode cX6_copy 45 = .ok (.iload_n 1, 1) := by decide +kernel
theorem dX6_copy_46 : decode cX6_copy 46 = .ok (.iaload, 1) := by decide +kernel
theorem dX6_copy_47 : decode cX6_copy 47 = .ok (.aload_n 0, 1) := by decide +kernel
theorem dX6_copy_48 : decode cX6_copy 48 = .ok (.getfield 7, 3) := by decide +kernel
theorem dX6_copy_51 : decode cX6_copy 51 = .ok (.iload_n 3, 1) := by decide +kernel
theorem dX6_copy_52 : decode cX6_copy 52 = .ok (.iaload, 1) := by decide +kernel
theorem dX6_copy_53 : decode cX6_copy 53 = .ok (.if_icmp .eq 9, 3) := by decide +kernel
theorem dX6_copy_56 : decode cX6_copy 56 = .ok (.aload_n 0, 1) := by decide +kernel
theorem dX6_copy_57 : decode cX6_copy 57 = .ok (.iconst 4, 1) := by decide +kernel
theorem dX6_copy_58 : decode cX6_copy 58 = .ok (.invokevirtual 71, 3) := by decide +kernel
theorem dX6_copy_61 : decode cX6_copy 61 = .ok (.ireturn, 1) := by decide +kernel
theorem dX6_copy_62 : decode cX6_copy 62 = .ok (.iload_n 2, 1) := by decide +kernel
theorem dX6_copy_63 : decode cX6_copy 63 = .ok (.ifCond .lt 48, 3) := by decide +kernel
theorem dX6_copy_66 : decode cX6_copy 66 = .ok (.iload 4, 2) := by decide +kernel
theorem dX6_copy_68 : decode cX6_copy 68 = .ok (.ifCond .lt 43, 3) := by decide +kernel
theorem dX6_copy_71 : decode cX6_copy 71 = .ok (.iload 5, 2) := by decide +kernel
theorem dX6_copy_73 : decode cX6_copy 73 = .ok (.ifCond .lt 38, 3) := by decide +kernel
theorem dX6_copy_76 : decode cX6_copy 76 = .ok (.iload_n 2, 1) := by decide +kernel
theorem dX6_copy_77 : decode cX6_copy 77 = .ok (.i2l, 1) := by decide +kernel
theorem dX6_copy_78 : decode cX6_copy 78 = .ok (.iload 5, 2) := by decide +kernel
theorem dX6_copy_80 : decode cX6_copy 80 = .ok (.i2l, 1) := by decide +kernel
theorem dX6_copy_81 : decode cX6_copy 81 = .ok (.ladd, 1) := by decide +kernel
theorem dX6_copy_82 : decode cX6_copy 82 = .ok (.aload_n 0, 1) := by decide +kernel
theorem dX6_copy_83 : decode cX6_copy 83 = .ok (.getfield 13, 3) := by decide +kernel
theorem dX6_copy_86 : decode cX6_copy 86 = .ok (.iload_n 1, 1) := by decide +kernel
theorem dX6_copy_87 : decode cX6_copy 87 = .ok (.iaload, 1) := by decide +kernel
theorem dX6_copy_88 : decode cX6_copy 88 = .ok (.i2l, 1) := by decide +kernel
theorem dX6_copy_89 : decode cX6_copy 89 = .ok (.lcmp, 1) := by decide +kernel
theorem dX6_copy_90 : decode cX6_copy 90 = .ok (.ifCond .gt 21, 3) := by decide +kernel
theorem dX6_copy_93 : decode cX6_copy 93 = .ok (.iload 4, 2) := by decide +kernel
theorem dX6_copy_95 : decode cX6_copy 95 = .ok (.i2l, 1) := by decide +kernel
theorem dX6_copy_96 : decode cX6_copy 96 = .ok (.iload 5, 2) := by decide +kernel
theorem dX6_copy_98 : decode cX6_copy 98 = .ok (.i2l, 1) := by decide +kernel
theorem dX6_copy_99 : decode cX6_copy 99 = .ok (.ladd, 1) := by decide +kernel
theorem dX6_copy_100 : decode cX6_copy 100 = .ok (.aload_n 0, 1) := by decide +kernel
theorem dX6_copy_101 : decode cX6_copy 101 = .ok (.getfield 13, 3) := by decide +kernel
theorem dX6_copy_104 : decode cX6_copy 104 = .ok (.iload_n 3, 1) := by decide +kernel
theorem dX6_copy_105 : decode cX6_copy 105 = .ok (.iaload, 1) := by decide +kernel
theorem dX6_copy_106 : decode cX6_copy 106 = .ok (.i2l, 1) := by decide +kernel
theorem dX6_copy_107 : decode cX6_copy 107 = .ok (.lcmp, 1) := by decide +kernel
theorem dX6_copy_108 : decode cX6_copy 108 = .ok (.ifCond .le 9, 3) := by decide +kernel
theorem dX6_copy_111 : decode cX6_copy 111 = .ok (.aload_n 0, 1) := by decide +kernel
theorem dX6_copy_112 : decode cX6_copy 112 = .ok (.iconst 2, 1) := by decide +kernel
theorem dX6_copy_113 : decode cX6_copy 113 = .ok (.invokevirtual 71, 3) := by decide +kernel
theorem dX6_copy_116 : decode cX6_copy 116 = .ok (.ireturn, 1) := by decide +kernel
theorem dX6_copy_117 : decode cX6_copy 117 = .ok (.iconst 0, 1) := by decide +kernel
theorem dX6_copy_118 : decode cX6_copy 118 = .ok (.istore 6, 2) := by decide +kernel
theorem dX6_copy_120 : decode cX6_copy 120 = .ok (.iload 6, 2) := by decide +kernel
theorem dX6_copy_122 : decode cX6_copy 122 = .ok (.iload 5, 2) := by decide +kernel
theorem dX6_copy_124 : decode cX6_copy 124 = .ok (.if_icmp .ge 30, 3) := by decide +kernel
theorem dX6_copy_127 : decode cX6_copy 127 = .ok (.aload_n 0, 1) := by decide +kernel
theorem dX6_copy_128 : decode cX6_copy 128 = .ok (.getfield 19, 3) := by decide +kernel
theorem dX6_copy_131 : decode cX6_copy 131 = .ok (.iload 6, 2) := by decide +kernel
theorem dX6_copy_133 : decode cX6_copy 133 = .ok (.aload_n 0, 1) := by decide +kernel
theorem dX6_copy_134 : decode cX6_copy 134 = .ok (.getfield 16, 3) := by decide +kernel
theorem dX6_copy_137 : decode cX6_copy 137 = .ok (.bipush 60, 2) := by decide +kernel
theorem dX6_copy_139 : decode cX6_copy 139 = .ok (.iload_n 1, 1) := by decide +kernel
theorem dX6_copy_140 : decode cX6_copy 140 = .ok (.imul, 1) := by decide +kernel
theorem dX6_copy_141 : decode cX6_copy 141 = .ok (.iload_n 2, 1) := by decide +kernel
theorem dX6_copy_142 : decode cX6_copy 142 = .ok (.iadd, 1) := by decide +kernel
theorem dX6_copy_143 : decode cX6_copy 143 = .ok (.iload 6, 2) := by decide +kernel
theorem dX6_copy_145 : decode cX6_copy 145 = .ok (.iadd, 1) := by decide +kernel
theorem dX6_copy_146 : decode cX6_copy 146 = .ok (.iaload, 1) := by decide +kernel
theorem dX6_copy_147 : decode cX6_copy 147 = .ok (.iastore, 1) := by decide +kernel
theorem dX6_copy_148 : decode cX6_copy 148 = .ok (.iinc 6 1, 3) := by decide +kernel
theorem dX6_copy_151 : decode cX6_copy 151 = .ok (.goto (-31), 3) := by decide +kernel
theorem dX6_copy_154 : decode cX6_copy 154 = .ok (.iconst 0, 1) := by decide +kernel
theorem dX6_copy_155 : decode cX6_copy 155 = .ok (.istore 6, 2) := by decide +kernel
theorem dX6_copy_157 : decode cX6_copy 157 = .ok (.iload 6, 2) := by decide +kernel
theorem dX6_copy_159 : decode cX6_copy 159 = .ok (.iload 5, 2) := by decide +kernel
theorem dX6_copy_161 : decode cX6_copy 161 = .ok (.if_icmp .ge 31, 3) := by decide +kernel
theorem dX6_copy_164 : decode cX6_copy 164 = .ok (.aload_n 0, 1) := by decide +kernel
theorem dX6_copy_165 : decode cX6_copy 165 = .ok (.getfield 16, 3) := by decide +kernel
theorem dX6_copy_168 : decode cX6_copy 168 = .ok (.bipush 60, 2) := by decide +kernel
theorem dX6_copy_170 : decode cX6_copy 170 = .ok (.iload_n 3, 1) := by decide +kernel
theorem dX6_copy_171 : decode cX6_copy 171 = .ok (.imul, 1) := by decide +kernel
theorem dX6_copy_172 : decode cX6_copy 172 = .ok (.iload 4, 2) := by decide +kernel
theorem dX6_copy_174 : decode cX6_copy 174 = .ok (.iadd, 1) := by decide +kernel
theorem dX6_copy_175 : decode cX6_copy 175 = .ok (.iload 6, 2) := by decide +kernel
theorem dX6_copy_177 : decode cX6_copy 177 = .ok (.iadd, 1) := by decide +kernel
theorem dX6_copy_178 : decode cX6_copy 178 = .ok (.aload_n 0, 1) := by decide +kernel
theorem dX6_copy_179 : decode cX6_copy 179 = .ok (.getfield 19, 3) := by decide +kernel
theorem dX6_copy_182 : decode cX6_copy 182 = .ok (.iload 6, 2) := by decide +kernel
theorem dX6_copy_184 : decode cX6_copy 184 = .ok (.iaload, 1) := by decide +kernel
theorem dX6_copy_185 : decode cX6_copy 185 = .ok (.iastore, 1) := by decide +kernel
theorem dX6_copy_186 : decode cX6_copy 186 = .ok (.iinc 6 1, 3) := by decide +kernel
theorem dX6_copy_189 : decode cX6_copy 189 = .ok (.goto (-32), 3) := by decide +kernel
theorem dX6_copy_192 : decode cX6_copy 192 = .ok (.iconst 1, 1) := by decide +kernel
theorem dX6_copy_193 : decode cX6_copy 193 = .ok (.ireturn, 1) := by decide +kernel
set_option maxRecDepth 20000 in
theorem ggX6_isMask_X6_in : GoodIn wsX6_isMask wsX6_in := goodIn_r _ [5] (by decide +kernel) (by decide +kernel)
set_option maxRecDepth 20000 in
theorem gX6_isMask_X6_in : GoodIn wsX6_isMask (va_wsS RX6 55 yX6_in wsX6_in) := goodIn_app (goodIn_of _ (by decide +kernel)) ggX6_isMask_X6_in
theorem dX6_isMask_0 : decode cX6_isMask 0 = .ok (.iload_n 0, 1) := by decide +kernel
theorem dX6_isMask_1 : decode cX6_isMask 1 = .ok (.i2l, 1) := by decide +kernel
theorem dX6_isMask_2 : decode cX6_isMask 2 = .ok (.lconst 0, 1) := by decide +kernel
theorem dX6_isMask_3 : decode cX6_isMask 3 = .ok (.ldc2_w 63, 3) := by decide +kernel
theorem dX6_isMask_6 : decode cX6_isMask 6 = .ok (.invokestatic 55, 3) := by decide +kernel
theorem dX6_isMask_9 : decode cX6_isMask 9 = .ok (.ireturn, 1) := by decide +kernel
set_option maxRecDepth 20000 in
theorem ggX6_isCell_X6_in : GoodIn wsX6_isCell wsX6_in := goodIn_r _ [5] (by decide +kernel) (by decide +kernel)
set_option maxRecDepth 20000 in
theorem gX6_isCell_X6_in : GoodIn wsX6_isCell (va_wsS RX6 55 yX6_in wsX6_in) := goodIn_app (goodIn_of _ (by decide +kernel)) ggX6_isCell_X6_in
theorem dX6_isCell_0 : decode cX6_isCell 0 = .ok (.iload_n 0, 1) := by decide +kernel
theorem dX6_isCell_1 : decode cX6_isCell 1 = .ok (.i2l, 1) := by decide +kernel
theorem dX6_isCell_2 : decode cX6_isCell 2 = .ok (.lconst 0, 1) := by decide +kernel
theorem dX6_isCell_3 : decode cX6_isCell 3 = .ok (.ldc2_w 84, 3) := by decide +kernel
theorem dX6_isCell_6 : decode cX6_isCell 6 = .ok (.invokestatic 55, 3) := by decide +kernel
theorem dX6_isCell_9 : decode cX6_isCell 9 = .ok (.ifCond .eq 19, 3) := by decide +kernel
theorem dX6_isCell_12 : decode cX6_isCell 12 = .ok (.iload_n 1, 1) := by decide +kernel
theorem dX6_isCell_13 : decode cX6_isCell 13 = .ok (.i2l, 1) := by decide +kernel
theorem dX6_isCell_14 : decode cX6_isCell 14 = .ok (.lconst 0, 1) := by decide +kernel
theorem dX6_isCell_15 : decode cX6_isCell 15 = .ok (.ldc2_w 84, 3) := by decide +kernel
theorem dX6_isCell_18 : decode cX6_isCell 18 = .ok (.invokestatic 55, 3) := by decide +kernel
theorem dX6_isCell_21 : decode cX6_isCell 21 = .ok (.ifCond .eq 7, 3) := by decide +kernel
theorem dX6_isCell_24 : decode cX6_isCell 24 = .ok (.iconst 1, 1) := by decide +kernel
theorem dX6_isCell_25 : decode cX6_isCell 25 = .ok (.goto 4, 3) := by decide +kernel
theorem dX6_isCell_28 : decode cX6_isCell 28 = .ok (.iconst 0, 1) := by decide +kernel
theorem dX6_isCell_29 : decode cX6_isCell 29 = .ok (.ireturn, 1) := by decide +kernel
set_option maxRecDepth 20000 in
theorem ggX6_dark_X6_isCell : GoodIn wsX6_dark wsX6_isCell := goodIn_r _ [5, 6, 7, 8, 4, 9] (by decide +kernel) (by decide +kernel)
set_option maxRecDepth 20000 in
theorem gX6_dark_X6_isCell : GoodIn wsX6_dark (va_wsS RX6 86 yX6_isCell wsX6_isCell) := goodIn_app (goodIn_of _ (by decide +kernel)) ggX6_dark_X6_isCell
theorem dX6_dark_0 : decode cX6_dark 0 = .ok (.iload_n 2, 1) := by decide +kernel
theorem dX6_dark_1 : decode cX6_dark 1 = .ok (.iload_n 3, 1) := by decide +kernel
theorem dX6_dark_2 : decode cX6_dark 2 = .ok (.invokestatic 86, 3) := by decide +kernel
theorem dX6_dark_5 : decode cX6_dark 5 = .ok (.ifCond .eq 21, 3) := by decide +kernel
theorem dX6_dark_8 : decode cX6_dark 8 = .ok (.aload_n 0, 1) := by decide +kernel
theorem dX6_dark_9 : decode cX6_dark 9 = .ok (.getfield 22, 3) := by decide +kernel
theorem dX6_dark_12 : decode cX6_dark 12 = .ok (.bipush 16, 2) := by decide +kernel
theorem dX6_dark_14 : decode cX6_dark 14 = .ok (.iload_n 1, 1) := by decide +kernel
theorem dX6_dark_15 : decode cX6_dark 15 = .ok (.imul, 1) := by decide +kernel
theorem dX6_dark_16 : decode cX6_dark 16 = .ok (.iload_n 3, 1) := by decide +kernel
theorem dX6_dark_17 : decode cX6_dark 17 = .ok (.iadd, 1) := by decide +kernel
theorem dX6_dark_18 : decode cX6_dark 18 = .ok (.iaload, 1) := by decide +kernel
theorem dX6_dark_19 : decode cX6_dark 19 = .ok (.iload_n 2, 1) := by decide +kernel
theorem dX6_dark_20 : decode cX6_dark 20 = .ok (.ishr, 1) := by decide +kernel
theorem dX6_dark_21 : decode cX6_dark 21 = .ok (.iconst 1, 1) := by decide +kernel
theorem dX6_dark_22 : decode cX6_dark 22 = .ok (.iand, 1) := by decide +kernel
theorem dX6_dark_23 : decode cX6_dark 23 = .ok (.goto 4, 3) := by decide +kernel
theorem dX6_dark_26 : decode cX6_dark 26 = .ok (.iconst 0, 1) := by decide +kernel
theorem dX6_dark_27 : decode cX6_dark 27 = .ok (.ireturn, 1) := by decide +kernel
set_option maxRecDepth 20000 in
theorem ggX6_darkOf_X6_dark : GoodIn wsX6_darkOf wsX6_dark := goodIn_r _ [5, 6, 7, 8, 4, 9, 10, 11, 12, 13, 14, 15, 16, 17, 18, 19, 20, 21, 22, 23, 24, 25, 26, 27, 28, 29, 30, 31, 32, 33, 34] (by decide +kernel) (by decide +kernel)
set_option maxRecDepth 20000 in
theorem gX6_darkOf_X6_dark : GoodIn wsX6_darkOf (wsV RX6 90 RX6 yX6_dark wsX6_dark) := goodIn_app (goodIn_of _ (by decide +kernel)) ggX6_darkOf_X6_dark
theorem dX6_darkOf_0 : decode cX6_darkOf 0 = .ok (.iconst 0, 1) := by decide +kernel
theorem dX6_darkOf_1 : decode cX6_darkOf 1 = .ok (.istore_n 2, 1) := by decide +kernel
theorem dX6_darkOf_2 : decode cX6_darkOf 2 = .ok (.iconst 0, 1) := by decide +kernel
theorem dX6_darkOf_3 : decode cX6_darkOf 3 = .ok (.istore_n 3, 1) := by decide +kernel
theorem dX6_darkOf_4 : decode cX6_darkOf 4 = .ok (.iload_n 3, 1) := by decide +kernel
theorem dX6_darkOf_5 : decode cX6_darkOf 5 = .ok (.sipush 256, 3) := by decide +kernel
theorem dX6_darkOf_8 : decode cX6_darkOf 8 = .ok (.if_icmp .ge 25, 3) := by decide +kernel
theorem dX6_darkOf_11 : decode cX6_darkOf 11 = .ok (.iload_n 2, 1) := by decide +kernel
theorem dX6_darkOf_12 : decode cX6_darkOf 12 = .ok (.aload_n 0, 1) := by decide +kernel
theorem dX6_darkOf_13 : decode cX6_darkOf 13 = .ok (.iload_n 1, 1) := by decide +kernel
theorem dX6_darkOf_14 : decode cX6_darkOf 14 = .ok (.iload_n 3, 1) := by decide +kernel
theorem dX6_darkOf_15 : decode cX6_darkOf 15 = .ok (.bipush 16, 2) := by decide +kernel
theorem dX6_darkOf_17 : decode cX6_darkOf 17 = .ok (.irem, 1) := by decide +kernel
theorem dX6_darkOf_18 : decode cX6_darkOf 18 = .ok (.iload_n 3, 1) := by decide +kernel
theorem dX6_darkOf_19 : decode cX6_darkOf 19 = .ok (.bipush 16, 2) := by decide +kernel
theorem dX6_darkOf_21 : decode cX6_darkOf 21 = .ok (.idiv, 1) := by decide +kernel
theorem dX6_darkOf_22 : decode cX6_darkOf 22 = .ok (.invokevirtual 90, 3) := by decide +kernel
theorem dX6_darkOf_25 : decode cX6_darkOf 25 = .ok (.iadd, 1) := by decide +kernel
theorem dX6_darkOf_26 : decode cX6_darkOf 26 = .ok (.istore_n 2, 1) := by decide +kernel
theorem dX6_darkOf_27 : decode cX6_darkOf 27 = .ok (.iinc 3 1, 3) := by decide +kernel
theorem dX6_darkOf_30 : decode cX6_darkOf 30 = .ok (.goto (-26), 3) := by decide +kernel
theorem dX6_darkOf_33 : decode cX6_darkOf 33 = .ok (.iload_n 2, 1) := by decide +kernel
theorem dX6_darkOf_34 : decode cX6_darkOf 34 = .ok (.ireturn, 1) := by decide +kernel
theorem dX6_clears_0 : decode cX6_clears 0 = .ok (.iconst 0, 1) := by decide +kernel
theorem dX6_clears_1 : decode cX6_clears 1 = .ok (.istore_n 1, 1) := by decide +kernel
theorem dX6_clears_2 : decode cX6_clears 2 = .ok (.iload_n 1, 1) := by decide +kernel
theorem dX6_clears_3 : decode cX6_clears 3 = .ok (.bipush 16, 2) := by decide +kernel
theorem dX6_clears_5 : decode cX6_clears 5 = .ok (.if_icmp .ge 16, 3) := by decide +kernel
theorem dX6_clears_8 : decode cX6_clears 8 = .ok (.aload_n 0, 1) := by decide +kernel
theorem dX6_clears_9 : decode cX6_clears 9 = .ok (.getfield 25, 3) := by decide +kernel
theorem dX6_clears_12 : decode cX6_clears 12 = .ok (.iload_n 1, 1) := by decide +kernel
theorem dX6_clears_13 : decode cX6_clears 13 = .ok (.iconst 0, 1) := by decide +kernel
theorem dX6_clears_14 : decode cX6_clears 14 = .ok (.iastore, 1) := by decide +kernel
theorem dX6_clears_15 : decode cX6_clears 15 = .ok (.iinc 1 1, 3) := by decide +kernel
theorem dX6_clears_18 : decode cX6_clears 18 = .ok (.goto (-16), 3) := by decide +kernel
theorem dX6_clears_21 : decode cX6_clears 21 = .ok (.return_, 1) := by decide +kernel
theorem dX6_starts_0 : decode cX6_starts 0 = .ok (.iconst 0, 1) := by decide +kernel
theorem dX6_starts_1 : decode cX6_starts 1 = .ok (.istore_n 2, 1) := by decide +kernel
theorem dX6_starts_2 : decode cX6_starts 2 = .ok (.iload_n 2, 1) := by decide +kernel
theorem dX6_starts_3 : decode cX6_starts 3 = .ok (.bipush 16, 2) := by decide +kernel
theorem dX6_starts_5 : decode cX6_starts 5 = .ok (.if_icmp .ge 26, 3) := by decide +kernel
theorem dX6_starts_8 : decode cX6_starts 8 = .ok (.aload_n 0, 1) := by decide +kernel
theorem dX6_starts_9 : decode cX6_starts 9 = .ok (.getfield 25, 3) := by decide +kernel
theorem dX6_starts_12 : decode cX6_starts 12 = .ok (.iload_n 2, 1) := by decide +kernel
theorem dX6_starts_13 : decode cX6_starts 13 = .ok (.aload_n 0, 1) := by decide +kernel
theorem dX6_starts_14 : decode cX6_starts 14 = .ok (.getfield 22, 3) := by decide +kernel
theorem dX6_starts_17 : decode cX6_starts 17 = .ok (.bipush 16, 2) := by decide +kernel
theorem dX6_starts_19 : decode cX6_starts 19 = .ok (.iload_n 1, 1) := by decide +kernel
theorem dX6_starts_20 : decode cX6_starts 20 = .ok (.imul, 1) := by decide +kernel
theorem dX6_starts_21 : decode cX6_starts 21 = .ok (.iload_n 2, 1) := by decide +kernel
theorem dX6_starts_22 : decode cX6_starts 22 = .ok (.iadd, 1) := by decide +kernel
theorem dX6_starts_23 : decode cX6_starts 23 = .ok (.iaload, 1) := by decide +kernel
theorem dX6_starts_24 : decode cX6_starts 24 = .ok (.iastore, 1) := by decide +kernel
theorem dX6_starts_25 : decode cX6_starts 25 = .ok (.iinc 2 1, 3) := by decide +kernel
theorem dX6_starts_28 : decode cX6_starts 28 = .ok (.goto (-26), 3) := by decide +kernel
theorem dX6_starts_31 : decode cX6_starts 31 = .ok (.return_, 1) := by decide +kernel
theorem dX6_sets_0 : decode cX6_sets 0 = .ok (.aload_n 0, 1) := by decide +kernel
theorem dX6_sets_1 : decode cX6_sets 1 = .ok (.getfield 25, 3) := by decide +kernel
theorem dX6_sets_4 : decode cX6_sets 4 = .ok (.iload_n 2, 1) := by decide +kernel
theorem dX6_sets_5 : decode cX6_sets 5 = .ok (.aload_n 0, 1) := by decide +kernel
theorem dX6_sets_6 : decode cX6_sets 6 = .ok (.getfield 25, 3) := by decide +kernel
theorem dX6_sets_9 : decode cX6_sets 9 = .ok (.iload_n 2, 1) := by decide +kernel
theorem dX6_sets_10 : decode cX6_sets 10 = .ok (.iaload, 1) := by decide +kernel
theorem dX6_sets_11 : decode cX6_sets 11 = .ok (.iconst 1, 1) := by decide +kernel
theorem dX6_sets_12 : decode cX6_sets 12 = .ok (.iload_n 1, 1) := by decide +kernel
theorem dX6_sets_13 : decode cX6_sets 13 = .ok (.ishl, 1) := by decide +kernel
theorem dX6_sets_14 : decode cX6_sets 14 = .ok (.iconst (-1), 1) := by decide +kernel
theorem dX6_sets_15 : decode cX6_sets 15 = .ok (.ixor, 1) := by decide +kernel
theorem dX6_sets_16 : decode cX6_sets 16 = .ok (.iand, 1) := by decide +kernel
theorem dX6_sets_17 : decode cX6_sets 17 = .ok (.iload_n 3, 1) := by decide +kernel
theorem dX6_sets_18 : decode cX6_sets 18 = .ok (.iload_n 1, 1) := by decide +kernel
theorem dX6_sets_19 : decode cX6_sets 19 = .ok (.ishl, 1) := by decide +kernel
theorem dX6_sets_20 : decode cX6_sets 20 = .ok (.ior, 1) := by decide +kernel
theorem dX6_sets_21 : decode cX6_sets 21 = .ok (.iastore, 1) := by decide +kernel
theorem dX6_sets_22 : decode cX6_sets 22 = .ok (.return_, 1) := by decide +kernel
theorem dX6_becomes_0 : decode cX6_becomes 0 = .ok (.aload_n 0, 1) := by decide +kernel
theorem dX6_becomes_1 : decode cX6_becomes 1 = .ok (.getfield 93, 3) := by decide +kernel
theorem dX6_becomes_4 : decode cX6_becomes 4 = .ok (.bipush 40, 2) := by decide +kernel
theorem dX6_becomes_6 : decode cX6_becomes 6 = .ok (.if_icmp .ne 72, 3) := by decide +kernel
theorem dX6_becomes_9 : decode cX6_becomes 9 = .ok (.iconst 1, 1) := by decide +kernel
theorem dX6_becomes_10 : decode cX6_becomes 10 = .ok (.istore_n 2, 1) := by decide +kernel
theorem dX6_becomes_11 : decode cX6_becomes 11 = .ok (.iload_n 2, 1) := by decide +kernel
theorem dX6_becomes_12 : decode cX6_becomes 12 = .ok (.bipush 40, 2) := by decide +kernel
theorem dX6_becomes_14 : decode cX6_becomes 14 = .ok (.if_icmp .ge 23, 3) := by decide +kernel
theorem dX6_becomes_17 : decode cX6_becomes 17 = .ok (.aload_n 0, 1) := by decide +kernel
theorem dX6_becomes_18 : decode cX6_becomes 18 = .ok (.getfield 28, 3) := by decide +kernel
theorem dX6_becomes_21 : decode cX6_becomes 21 = .ok (.iload_n 2, 1) := by decide +kernel
theorem dX6_becomes_22 : decode cX6_becomes 22 = .ok (.iconst 1, 1) := by decide +kernel
theorem dX6_becomes_23 : decode cX6_becomes 23 = .ok (.isub, 1) := by decide +kernel
theorem dX6_becomes_24 : decode cX6_becomes 24 = .ok (.aload_n 0, 1) := by decide +kernel
theorem dX6_becomes_25 : decode cX6_becomes 25 = .ok (.getfield 28, 3) := by decide +kernel
theorem dX6_becomes_28 : decode cX6_becomes 28 = .ok (.iload_n 2, 1) := by decide +kernel
theorem dX6_becomes_29 : decode cX6_becomes 29 = .ok (.iaload, 1) := by decide +kernel
theorem dX6_becomes_30 : decode cX6_becomes 30 = .ok (.iastore, 1) := by decide +kernel
theorem dX6_becomes_31 : decode cX6_becomes 31 = .ok (.iinc 2 1, 3) := by decide +kernel
theorem dX6_becomes_34 : decode cX6_becomes 34 = .ok (.goto (-23), 3) := by decide +kernel
theorem dX6_becomes_37 : decode cX6_becomes 37 = .ok (.bipush 16, 2) := by decide +kernel
theorem dX6_becomes_39 : decode cX6_becomes 39 = .ok (.istore_n 2, 1) := by decide +kernel
theorem dX6_becomes_40 : decode cX6_becomes 40 = .ok (.iload_n 2, 1) := by decide +kernel
theorem dX6_becomes_41 : decode cX6_becomes 41 = .ok (.sipush 640, 3) := by decide +kernel
theorem dX6_becomes_44 : decode cX6_becomes 44 = .ok (.if_icmp .ge 24, 3) := by decide +kernel
theorem dX6_becomes_47 : decode cX6_becomes 47 = .ok (.aload_n 0, 1) := by decide +kernel
theorem dX6_becomes_48 : decode cX6_becomes 48 = .ok (.getfield 31, 3) := by decide +kernel
theorem dX6_becomes_51 : decode cX6_becomes 51 = .ok (.iload_n 2, 1) := by decide +kernel
theorem dX6_becomes_52 : decode cX6_becomes 52 = .ok (.bipush 16, 2) := by decide +kernel
theorem dX6_becomes_54 : decode cX6_becomes 54 = .ok (.isub, 1) := by decide +kernel
theorem dX6_becomes_55 : decode cX6_becomes 55 = .ok (.aload_n 0, 1) := by decide +kernel
theorem dX6_becomes_56 : decode cX6_becomes 56 = .ok (.getfield 31, 3) := by decide +kernel
theorem dX6_becomes_59 : decode cX6_becomes 59 = .ok (.iload_n 2, 1) := by decide +kernel
theorem dX6_becomes_60 : decode cX6_becomes 60 = .ok (.iaload, 1) := by decide +kernel
theorem dX6_becomes_61 : decode cX6_becomes 61 = .ok (.iastore, 1) := by decide +kernel
theorem dX6_becomes_62 : decode cX6_becomes 62 = .ok (.iinc 2 1, 3) := by decide +kernel
theorem dX6_becomes_65 : decode cX6_becomes 65 = .ok (.goto (-25), 3) := by decide +kernel
theorem dX6_becomes_68 : decode cX6_becomes 68 = .ok (.aload_n 0, 1) := by decide +kernel
theorem dX6_becomes_69 : decode cX6_becomes 69 = .ok (.dup, 1) := by decide +kernel
theorem dX6_becomes_70 : decode cX6_becomes 70 = .ok (.getfield 93, 3) := by decide +kernel
theorem dX6_becomes_73 : decode cX6_becomes 73 = .ok (.iconst 1, 1) := by decide +kernel
theorem dX6_becomes_74 : decode cX6_becomes 74 = .ok (.isub, 1) := by decide +kernel
theorem dX6_becomes_75 : decode cX6_becomes 75 = .ok (.putfield 93, 3) := by decide +kernel
theorem dX6_becomes_78 : decode cX6_becomes 78 = .ok (.aload_n 0, 1) := by decide +kernel
theorem dX6_becomes_79 : decode cX6_becomes 79 = .ok (.getfield 28, 3) := by decide +kernel
theorem dX6_becomes_82 : decode cX6_becomes 82 = .ok (.aload_n 0, 1) := by decide +kernel
theorem dX6_becomes_83 : decode cX6_becomes 83 = .ok (.getfield 93, 3) := by decide +kernel
theorem dX6_becomes_86 : decode cX6_becomes 86 = .ok (.iload_n 1, 1) := by decide +kernel
theorem dX6_becomes_87 : decode cX6_becomes 87 = .ok (.iastore, 1) := by decide +kernel
theorem dX6_becomes_88 : decode cX6_becomes 88 = .ok (.iconst 0, 1) := by decide +kernel
theorem dX6_becomes_89 : decode cX6_becomes 89 = .ok (.istore_n 2, 1) := by decide +kernel
theorem dX6_becomes_90 : decode cX6_becomes 90 = .ok (.iload_n 2, 1) := by decide +kernel
theorem dX6_becomes_91 : decode cX6_becomes 91 = .ok (.bipush 16, 2) := by decide +kernel
theorem dX6_becomes_93 : decode cX6_becomes 93 = .ok (.if_icmp .ge 51, 3) := by decide +kernel
theorem dX6_becomes_96 : decode cX6_becomes 96 = .ok (.aload_n 0, 1) := by decide +kernel
theorem dX6_becomes_97 : decode cX6_becomes 97 = .ok (.getfield 31, 3) := by decide +kernel
theorem dX6_becomes_100 : decode cX6_becomes 100 = .ok (.bipush 16, 2) := by decide +kernel
theorem dX6_becomes_102 : decode cX6_becomes 102 = .ok (.aload_n 0, 1) := by decide +kernel
theorem dX6_becomes_103 : decode cX6_becomes 103 = .ok (.getfield 93, 3) := by decide +kernel
theorem dX6_becomes_106 : decode cX6_becomes 106 = .ok (.imul, 1) := by decide +kernel
theorem dX6_becomes_107 : decode cX6_becomes 107 = .ok (.iload_n 2, 1) := by decide +kernel
theorem dX6_becomes_108 : decode cX6_becomes 108 = .ok (.iadd, 1) := by decide +kernel
theorem dX6_becomes_109 : decode cX6_becomes 109 = .ok (.aload_n 0, 1) := by decide +kernel
theorem dX6_becomes_110 : decode cX6_becomes 110 = .ok (.getfield 22, 3) := by decide +kernel
theorem dX6_becomes_113 : decode cX6_becomes 113 = .ok (.bipush 16, 2) := by decide +kernel
theorem dX6_becomes_115 : decode cX6_becomes 115 = .ok (.iload_n 1, 1) := by decide +kernel
theorem dX6_becomes_116 : decode cX6_becomes 116 = .ok (.imul, 1) := by decide +kernel
theorem dX6_becomes_117 : decode cX6_becomes 117 = .ok (.iload_n 2, 1) := by decide +kernel
theorem dX6_becomes_118 : decode cX6_becomes 118 = .ok (.iadd, 1) := by decide +kernel
theorem dX6_becomes_119 : decode cX6_becomes 119 = .ok (.iaload, 1) := by decide +kernel
theorem dX6_becomes_120 : decode cX6_becomes 120 = .ok (.iastore, 1) := by decide +kernel
theorem dX6_becomes_121 : decode cX6_becomes 121 = .ok (.aload_n 0, 1) := by decide +kernel
theorem dX6_becomes_122 : decode cX6_becomes 122 = .ok (.getfield 22, 3) := by decide +kernel
theorem dX6_becomes_125 : decode cX6_becomes 125 = .ok (.bipush 16, 2) := by decide +kernel
theorem dX6_becomes_127 : decode cX6_becomes 127 = .ok (.iload_n 1, 1) := by decide +kernel
theorem dX6_becomes_128 : decode cX6_becomes 128 = .ok (.imul, 1) := by decide +kernel
theorem dX6_becomes_129 : decode cX6_becomes 129 = .ok (.iload_n 2, 1) := by decide +kernel
theorem dX6_becomes_130 : decode cX6_becomes 130 = .ok (.iadd, 1) := by decide +kernel
theorem dX6_becomes_131 : decode cX6_becomes 131 = .ok (.aload_n 0, 1) := by decide +kernel
theorem dX6_becomes_132 : decode cX6_becomes 132 = .ok (.getfield 25, 3) := by decide +kernel
theorem dX6_becomes_135 : decode cX6_becomes 135 = .ok (.iload_n 2, 1) := by decide +kernel
theorem dX6_becomes_136 : decode cX6_becomes 136 = .ok (.iaload, 1) := by decide +kernel
theorem dX6_becomes_137 : decode cX6_becomes 137 = .ok (.iastore, 1) := by decide +kernel
theorem dX6_becomes_138 : decode cX6_becomes 138 = .ok (.iinc 2 1, 3) := by decide +kernel
theorem dX6_becomes_141 : decode cX6_becomes 141 = .ok (.goto (-51), 3) := by decide +kernel
theorem dX6_becomes_144 : decode cX6_becomes 144 = .ok (.aload_n 0, 1) := by decide +kernel
theorem dX6_becomes_145 : decode cX6_becomes 145 = .ok (.dup, 1) := by decide +kernel
theorem dX6_becomes_146 : decode cX6_becomes 146 = .ok (.getfield 93, 3) := by decide +kernel
theorem dX6_becomes_149 : decode cX6_becomes 149 = .ok (.iconst 1, 1) := by decide +kernel
theorem dX6_becomes_150 : decode cX6_becomes 150 = .ok (.iadd, 1) := by decide +kernel
theorem dX6_becomes_151 : decode cX6_becomes 151 = .ok (.putfield 93, 3) := by decide +kernel
theorem dX6_becomes_154 : decode cX6_becomes 154 = .ok (.return_, 1) := by decide +kernel
set_option maxRecDepth 20000 in
theorem ggX6_become_X6_becomes : GoodIn wsX6_become wsX6_becomes := goodIn_r _ [5, 6, 7, 8, 9, 10, 26, 27, 28, 29, 30, 31, 32, 33, 34, 35, 36, 37, 38, 39, 40, 41, 42, 43, 44, 45, 46] (by decide +kernel) (by decide +kernel)
set_option maxRecDepth 20000 in
theorem gX6_become_X6_becomes : GoodIn wsX6_become (wsV RX6 96 RX6 yX6_becomes wsX6_becomes) := goodIn_app (goodIn_of _ (by decide +kernel)) ggX6_become_X6_becomes
set_option maxRecDepth 20000 in
theorem ggX6_become_X6_darkOf : GoodIn wsX6_become wsX6_darkOf := goodIn_r _ [14, 15, 16, 17, 4, 18, 9, 19, 20, 21, 22, 23, 24, 25, 26, 27, 28, 29, 30, 31, 32, 33, 34, 35, 36, 37, 38, 39, 40, 41, 42, 43, 44, 45, 46] (by decide +kernel) (by decide +kernel)
set_option maxRecDepth 20000 in
theorem gX6_become_X6_darkOf : GoodIn wsX6_become (wsV RX6 100 RX6 yX6_darkOf wsX6_darkOf) := goodIn_app (goodIn_of _ (by decide +kernel)) ggX6_become_X6_darkOf
theorem dX6_become_0 : decode cX6_become 0 = .ok (.aload_n 0, 1) := by decide +kernel
theorem dX6_become_1 : decode cX6_become 1 = .ok (.iload_n 1, 1) := by decide +kernel
theorem dX6_become_2 : decode cX6_become 2 = .ok (.invokevirtual 96, 3) := by decide +kernel
theorem dX6_become_5 : decode cX6_become 5 = .ok (.aload_n 0, 1) := by decide +kernel
theorem dX6_become_6 : decode cX6_become 6 = .ok (.iload_n 1, 1) := by decide +kernel
theorem dX6_become_7 : decode cX6_become 7 = .ok (.invokevirtual 100, 3) := by decide +kernel
theorem dX6_become_10 : decode cX6_become 10 = .ok (.ireturn, 1) := by decide +kernel
set_option maxRecDepth 20000 in
theorem ggX6_fill_X6_isMask : GoodIn wsX6_fill wsX6_isMask := goodIn_r _ [5, 6, 7, 8, 4, 9] (by decide +kernel) (by decide +kernel)
set_option maxRecDepth 20000 in
theorem gX6_fill_X6_isMask : GoodIn wsX6_fill (va_wsS RX6 103 yX6_isMask wsX6_isMask) := goodIn_app (goodIn_of _ (by decide +kernel)) ggX6_fill_X6_isMask
set_option maxRecDepth 20000 in
theorem ggX6_fill_X6_isCell : GoodIn wsX6_fill wsX6_isCell := goodIn_r _ [12, 13, 7, 8, 4, 9] (by decide +kernel) (by decide +kernel)
set_option maxRecDepth 20000 in
theorem gX6_fill_X6_isCell : GoodIn wsX6_fill (va_wsS RX6 86 yX6_isCell wsX6_isCell) := goodIn_app (goodIn_of _ (by decide +kernel)) ggX6_fill_X6_isCell
set_option maxRecDepth 20000 in
theorem ggX6_fill_X6_in : GoodIn wsX6_fill wsX6_in := goodIn_r _ [9] (by decide +kernel) (by decide +kernel)
set_option maxRecDepth 20000 in
theorem gX6_fill_X6_in : GoodIn wsX6_fill (va_wsS RX6 55 yX6_in wsX6_in) := goodIn_app (goodIn_of _ (by decide +kernel)) ggX6_fill_X6_in
set_option maxRecDepth 20000 in
theorem ggX6_fill_X6_isTwo : GoodIn wsX6_fill wsX6_isTwo := goodIn_r _ [16, 7, 8, 4, 9] (by decide +kernel) (by decide +kernel)
set_option maxRecDepth 20000 in
theorem gX6_fill_X6_isTwo : GoodIn wsX6_fill (va_wsS RX6 108 yX6_isTwo wsX6_isTwo) := goodIn_app (goodIn_of _ (by decide +kernel)) ggX6_fill_X6_isTwo
set_option maxRecDepth 20000 in
theorem ggX6_fill_X6_starts : GoodIn wsX6_fill wsX6_starts := goodIn_r _ [20, 21, 22, 46, 47, 48, 49, 50, 51, 52, 53, 54, 55, 56, 57, 58, 59, 60, 61, 62, 63, 64, 65, 66] (by decide +kernel) (by decide +kernel)
set_option maxRecDepth 20000 in
theorem gX6_fill_X6_starts : GoodIn wsX6_fill (wsV RX6 111 RX6 yX6_starts wsX6_starts) := goodIn_app (goodIn_of _ (by decide +kernel)) ggX6_fill_X6_starts
set_option maxRecDepth 20000 in
theorem ggX6_fill_X6_sets : GoodIn wsX6_fill wsX6_sets := goodIn_r _ [26, 21, 46, 47, 48, 49, 50, 51, 52, 53, 54, 55, 56, 57, 58, 59, 60, 61, 62, 63, 64, 65, 66] (by decide +kernel) (by decide +kernel)
set_option maxRecDepth 20000 in
theorem gX6_fill_X6_sets : GoodIn wsX6_fill (wsV RX6 114 RX6 yX6_sets wsX6_sets) := goodIn_app (goodIn_of _ (by decide +kernel)) ggX6_fill_X6_sets
set_option maxRecDepth 20000 in
theorem ggX6_fill_X6_become : GoodIn wsX6_fill wsX6_become := goodIn_r _ [30, 31, 32, 33, 4, 34, 35, 36, 37, 22, 21, 38, 39, 40, 41, 42, 43, 44, 45, 10, 11, 12, 13, 7, 8, 9, 46, 47, 48, 49, 50, 51, 52, 53, 54, 55, 56, 57, 58, 59, 60, 61, 62, 63, 64, 65, 66] (by decide +kernel) (by decide +kernel)
set_option maxRecDepth 20000 in
theorem gX6_fill_X6_become : GoodIn wsX6_fill (wsV RX6 118 RX6 yX6_become wsX6_become) := goodIn_app (goodIn_of _ (by decide +kernel)) ggX6_fill_X6_become
theorem dX6_fill_0 : decode cX6_fill 0 = .ok (.iload_n 1, 1) := by decide +kernel
theorem dX6_fill_1 : decode cX6_fill 1 = .ok (.invokestatic 103, 3) := by decide +kernel
theorem dX6_fill_4 : decode cX6_fill 4 = .ok (.ifCond .eq 45, 3) := by decide +kernel
theorem dX6_fill_7 : decode cX6_fill 7 = .ok (.iload_n 2, 1) := by decide +kernel
theorem dX6_fill_8 : decode cX6_fill 8 = .ok (.iload_n 3, 1) := by decide +kernel
theorem dX6_fill_9 : decode cX6_fill 9 = .ok (.invokestatic 86, 3) := by decide +kernel
theorem dX6_fill_12 : decode cX6_fill 12 = .ok (.ifCond .eq 37, 3) := by decide +kernel
theorem dX6_fill_15 : decode cX6_fill 15 = .ok (.iload 4, 2) := by decide +kernel
theorem dX6_fill_17 : decode cX6_fill 17 = .ok (.i2l, 1) := by decide +kernel
theorem dX6_fill_18 : decode cX6_fill 18 = .ok (.lconst 0, 1) := by decide +kernel
theorem dX6_fill_19 : decode cX6_fill 19 = .ok (.ldc2_w 106, 3) := by decide +kernel
theorem dX6_fill_22 : decode cX6_fill 22 = .ok (.invokestatic 55, 3) := by decide +kernel
theorem dX6_fill_25 : decode cX6_fill 25 = .ok (.ifCond .eq 24, 3) := by decide +kernel
theorem dX6_fill_28 : decode cX6_fill 28 = .ok (.iload 5, 2) := by decide +kernel
theorem dX6_fill_30 : decode cX6_fill 30 = .ok (.i2l, 1) := by decide +kernel
theorem dX6_fill_31 : decode cX6_fill 31 = .ok (.lconst 0, 1) := by decide +kernel
theorem dX6_fill_32 : decode cX6_fill 32 = .ok (.ldc2_w 106, 3) := by decide +kernel
theorem dX6_fill_35 : decode cX6_fill 35 = .ok (.invokestatic 55, 3) := by decide +kernel
theorem dX6_fill_38 : decode cX6_fill 38 = .ok (.ifCond .eq 11, 3) := by decide +kernel
theorem dX6_fill_41 : decode cX6_fill 41 = .ok (.iload 6, 2) := by decide +kernel
theorem dX6_fill_43 : decode cX6_fill 43 = .ok (.invokestatic 108, 3) := by decide +kernel
theorem dX6_fill_46 : decode cX6_fill 46 = .ok (.ifCond .ne 6, 3) := by decide +kernel
theorem dX6_fill_49 : decode cX6_fill 49 = .ok (.bipush (-2), 2) := by decide +kernel
theorem dX6_fill_51 : decode cX6_fill 51 = .ok (.ireturn, 1) := by decide +kernel
theorem dX6_fill_52 : decode cX6_fill 52 = .ok (.aload_n 0, 1) := by decide +kernel
theorem dX6_fill_53 : decode cX6_fill 53 = .ok (.iload_n 1, 1) := by decide +kernel
theorem dX6_fill_54 : decode cX6_fill 54 = .ok (.invokevirtual 111, 3) := by decide +kernel
theorem dX6_fill_57 : decode cX6_fill 57 = .ok (.iconst 0, 1) := by decide +kernel
theorem dX6_fill_58 : decode cX6_fill 58 = .ok (.istore 7, 2) := by decide +kernel
theorem dX6_fill_60 : decode cX6_fill 60 = .ok (.iload 7, 2) := by decide +kernel
theorem dX6_fill_62 : decode cX6_fill 62 = .ok (.sipush 256, 3) := by decide +kernel
theorem dX6_fill_65 : decode cX6_fill 65 = .ok (.if_icmp .ge 67, 3) := by decide +kernel
theorem dX6_fill_68 : decode cX6_fill 68 = .ok (.iload 7, 2) := by decide +kernel
theorem dX6_fill_70 : decode cX6_fill 70 = .ok (.bipush 16, 2) := by decide +kernel
theorem dX6_fill_72 : decode cX6_fill 72 = .ok (.irem, 1) := by decide +kernel
theorem dX6_fill_73 : decode cX6_fill 73 = .ok (.i2l, 1) := by decide +kernel
theorem dX6_fill_74 : decode cX6_fill 74 = .ok (.iload_n 2, 1) := by decide +kernel
theorem dX6_fill_75 : decode cX6_fill 75 = .ok (.i2l, 1) := by decide +kernel
theorem dX6_fill_76 : decode cX6_fill 76 = .ok (.iload_n 2, 1) := by decide +kernel
theorem dX6_fill_77 : decode cX6_fill 77 = .ok (.iload 4, 2) := by decide +kernel
theorem dX6_fill_79 : decode cX6_fill 79 = .ok (.iadd, 1) := by decide +kernel
theorem dX6_fill_80 : decode cX6_fill 80 = .ok (.iconst 1, 1) := by decide +kernel
theorem dX6_fill_81 : decode cX6_fill 81 = .ok (.isub, 1) := by decide +kernel
theorem dX6_fill_82 : decode cX6_fill 82 = .ok (.i2l, 1) := by decide +kernel
theorem dX6_fill_83 : decode cX6_fill 83 = .ok (.invokestatic 55, 3) := by decide +kernel
theorem dX6_fill_86 : decode cX6_fill 86 = .ok (.ifCond .eq 40, 3) := by decide +kernel
theorem dX6_fill_89 : decode cX6_fill 89 = .ok (.iload 7, 2) := by decide +kernel
theorem dX6_fill_91 : decode cX6_fill 91 = .ok (.bipush 16, 2) := by decide +kernel
theorem dX6_fill_93 : decode cX6_fill 93 = .ok (.idiv, 1) := by decide +kernel
theorem dX6_fill_94 : decode cX6_fill 94 = .ok (.i2l, 1) := by decide +kernel
theorem dX6_fill_95 : decode cX6_fill 95 = .ok (.iload_n 3, 1) := by decide +kernel
theorem dX6_fill_96 : decode cX6_fill 96 = .ok (.i2l, 1) := by decide +kernel
theorem dX6_fill_97 : decode cX6_fill 97 = .ok (.iload_n 3, 1) := by decide +kernel
theorem dX6_fill_98 : decode cX6_fill 98 = .ok (.iload 5, 2) := by decide +kernel
theorem dX6_fill_100 : decode cX6_fill 100 = .ok (.iadd, 1) := by decide +kernel
theorem dX6_fill_101 : decode cX6_fill 101 = .ok (.iconst 1, 1) := by decide +kernel
theorem dX6_fill_102 : decode cX6_fill 102 = .ok (.isub, 1) := by decide +kernel
theorem dX6_fill_103 : decode cX6_fill 103 = .ok (.i2l, 1) := by decide +kernel
theorem dX6_fill_104 : decode cX6_fill 104 = .ok (.invokestatic 55, 3) := by decide +kernel
theorem dX6_fill_107 : decode cX6_fill 107 = .ok (.ifCond .eq 19, 3) := by decide +kernel
theorem dX6_fill_110 : decode cX6_fill 110 = .ok (.aload_n 0, 1) := by decide +kernel
theorem dX6_fill_111 : decode cX6_fill 111 = .ok (.iload 7, 2) := by decide +kernel
theorem dX6_fill_113 : decode cX6_fill 113 = .ok (.bipush 16, 2) := by decide +kernel
theorem dX6_fill_115 : decode cX6_fill 115 = .ok (.irem, 1) := by decide +kernel
theorem dX6_fill_116 : decode cX6_fill 116 = .ok (.iload 7, 2) := by decide +kernel
theorem dX6_fill_118 : decode cX6_fill 118 = .ok (.bipush 16, 2) := by decide +kernel
theorem dX6_fill_120 : decode cX6_fill 120 = .ok (.idiv, 1) := by decide +kernel
theorem dX6_fill_121 : decode cX6_fill 121 = .ok (.iload 6, 2) := by decide +kernel
theorem dX6_fill_123 : decode cX6_fill 123 = .ok (.invokevirtual 114, 3) := by decide +kernel
theorem dX6_fill_126 : decode cX6_fill 126 = .ok (.iinc 7 1, 3) := by decide +kernel
theorem dX6_fill_129 : decode cX6_fill 129 = .ok (.goto (-69), 3) := by decide +kernel
theorem dX6_fill_132 : decode cX6_fill 132 = .ok (.aload_n 0, 1) := by decide +kernel
theorem dX6_fill_133 : decode cX6_fill 133 = .ok (.iload_n 1, 1) := by decide +kernel
theorem dX6_fill_134 : decode cX6_fill 134 = .ok (.invokevirtual 118, 3) := by decide +kernel
theorem dX6_fill_137 : decode cX6_fill 137 = .ok (.ireturn, 1) := by decide +kernel
theorem dX6_lot_0 : decode cX6_lot 0 = .ok (.aload_n 0, 1) := by decide +kernel
theorem dX6_lot_1 : decode cX6_lot 1 = .ok (.ldc 121, 2) := by decide +kernel
theorem dX6_lot_3 : decode cX6_lot 3 = .ok (.aload_n 0, 1) := by decide +kernel
theorem dX6_lot_4 : decode cX6_lot 4 = .ok (.getfield 122, 3) := by decide +kernel
theorem dX6_lot_7 : decode cX6_lot 7 = .ok (.imul, 1) := by decide +kernel
theorem dX6_lot_8 : decode cX6_lot 8 = .ok (.sipush 12345, 3) := by decide +kernel
theorem dX6_lot_11 : decode cX6_lot 11 = .ok (.iadd, 1) := by decide +kernel
theorem dX6_lot_12 : decode cX6_lot 12 = .ok (.putfield 122, 3) := by decide +kernel
theorem dX6_lot_15 : decode cX6_lot 15 = .ok (.aload_n 0, 1) := by decide +kernel
theorem dX6_lot_16 : decode cX6_lot 16 = .ok (.getfield 122, 3) := by decide +kernel
theorem dX6_lot_19 : decode cX6_lot 19 = .ok (.bipush 16, 2) := by decide +kernel
theorem dX6_lot_21 : decode cX6_lot 21 = .ok (.iushr, 1) := by decide +kernel
theorem dX6_lot_22 : decode cX6_lot 22 = .ok (.iload_n 1, 1) := by decide +kernel
theorem dX6_lot_23 : decode cX6_lot 23 = .ok (.irem, 1) := by decide +kernel
theorem dX6_lot_24 : decode cX6_lot 24 = .ok (.ireturn, 1) := by decide +kernel
set_option maxRecDepth 20000 in
theorem ggX6_dots_X6_isMask : GoodIn wsX6_dots wsX6_isMask := goodIn_r _ [7, 8, 9, 10, 6, 11] (by decide +kernel) (by decide +kernel)
set_option maxRecDepth 20000 in
theorem gX6_dots_X6_isMask : GoodIn wsX6_dots (va_wsS RX6 103 yX6_isMask wsX6_isMask) := goodIn_app (goodIn_of _ (by decide +kernel)) ggX6_dots_X6_isMask
set_option maxRecDepth 20000 in
theorem ggX6_dots_X6_in : GoodIn wsX6_dots wsX6_in := goodIn_r _ [11] (by decide +kernel) (by decide +kernel)
set_option maxRecDepth 20000 in
theorem gX6_dots_X6_in : GoodIn wsX6_dots (va_wsS RX6 55 yX6_in wsX6_in) := goodIn_app (goodIn_of _ (by decide +kernel)) ggX6_dots_X6_in
set_option maxRecDepth 20000 in
theorem ggX6_dots_X6_starts : GoodIn wsX6_dots wsX6_starts := goodIn_r _ [15, 3, 16, 45, 46, 47, 48, 49, 50, 51, 52, 53, 54, 55, 56, 57, 58, 59, 60, 61, 62, 63, 64, 65] (by decide +kernel) (by decide +kernel)
set_option maxRecDepth 20000 in
theorem gX6_dots_X6_starts : GoodIn wsX6_dots (wsV RX6 111 RX6 yX6_starts wsX6_starts) := goodIn_app (goodIn_of _ (by decide +kernel)) ggX6_dots_X6_starts
set_option maxRecDepth 20000 in
theorem ggX6_dots_X6_lot : GoodIn wsX6_dots wsX6_lot := goodIn_r _ [20, 21, 2, 45, 46, 47, 48, 49, 50, 51, 52, 53, 54, 55, 56, 57, 58, 59, 60, 61, 62, 63, 64, 65] (by decide +kernel) (by decide +kernel)
set_option maxRecDepth 20000 in
theorem gX6_dots_X6_lot : GoodIn wsX6_dots (wsV RX6 127 RX6 yX6_lot wsX6_lot) := goodIn_app (goodIn_of _ (by decide +kernel)) ggX6_dots_X6_lot
set_option maxRecDepth 20000 in
theorem ggX6_dots_X6_become : GoodIn wsX6_dots wsX6_become := goodIn_r _ [25, 26, 27, 28, 6, 29, 30, 31, 32, 16, 3, 33, 34, 35, 36, 37, 38, 39, 40, 41, 42, 43, 44, 9, 10, 11, 45, 46, 47, 48, 49, 50, 51, 52, 53, 54, 55, 56, 57, 58, 59, 60, 61, 62, 63, 64, 65] (by decide +kernel) (by decide +kernel)
set_option maxRecDepth 20000 in
theorem gX6_dots_X6_become : GoodIn wsX6_dots (wsV RX6 118 RX6 yX6_become wsX6_become) := goodIn_app (goodIn_of _ (by decide +kernel)) ggX6_dots_X6_become
theorem dX6_dots_0 : decode cX6_dots 0 = .ok (.iload_n 1, 1) := by decide +kernel
theorem dX6_dots_1 : decode cX6_dots 1 = .ok (.invokestatic 103, 3) := by decide +kernel
theorem dX6_dots_4 : decode cX6_dots 4 = .ok (.ifCond .eq 15, 3) := by decide +kernel
theorem dX6_dots_7 : decode cX6_dots 7 = .ok (.iload_n 3, 1) := by decide +kernel
theorem dX6_dots_8 : decode cX6_dots 8 = .ok (.i2l, 1) := by decide +kernel
theorem dX6_dots_9 : decode cX6_dots 9 = .ok (.lconst 0, 1) := by decide +kernel
theorem dX6_dots_10 : decode cX6_dots 10 = .ok (.ldc2_w 125, 3) := by decide +kernel
theorem dX6_dots_13 : decode cX6_dots 13 = .ok (.invokestatic 55, 3) := by decide +kernel
theorem dX6_dots_16 : decode cX6_dots 16 = .ok (.ifCond .ne 6, 3) := by decide +kernel
theorem dX6_dots_19 : decode cX6_dots 19 = .ok (.bipush (-2), 2) := by decide +kernel
theorem dX6_dots_21 : decode cX6_dots 21 = .ok (.ireturn, 1) := by decide +kernel
theorem dX6_dots_22 : decode cX6_dots 22 = .ok (.aload_n 0, 1) := by decide +kernel
theorem dX6_dots_23 : decode cX6_dots 23 = .ok (.iload_n 1, 1) := by decide +kernel
theorem dX6_dots_24 : decode cX6_dots 24 = .ok (.invokevirtual 111, 3) := by decide +kernel
theorem dX6_dots_27 : decode cX6_dots 27 = .ok (.aload_n 0, 1) := by decide +kernel
theorem dX6_dots_28 : decode cX6_dots 28 = .ok (.iload_n 2, 1) := by decide +kernel
theorem dX6_dots_29 : decode cX6_dots 29 = .ok (.putfield 122, 3) := by decide +kernel
theorem dX6_dots_32 : decode cX6_dots 32 = .ok (.iconst 0, 1) := by decide +kernel
theorem dX6_dots_33 : decode cX6_dots 33 = .ok (.istore 4, 2) := by decide +kernel
theorem dX6_dots_35 : decode cX6_dots 35 = .ok (.iload 4, 2) := by decide +kernel
theorem dX6_dots_37 : decode cX6_dots 37 = .ok (.iload_n 3, 1) := by decide +kernel
theorem dX6_dots_38 : decode cX6_dots 38 = .ok (.if_icmp .ge 38, 3) := by decide +kernel
theorem dX6_dots_41 : decode cX6_dots 41 = .ok (.aload_n 0, 1) := by decide +kernel
theorem dX6_dots_42 : decode cX6_dots 42 = .ok (.sipush 256, 3) := by decide +kernel
theorem dX6_dots_45 : decode cX6_dots 45 = .ok (.invokevirtual 127, 3) := by decide +kernel
theorem dX6_dots_48 : decode cX6_dots 48 = .ok (.istore 5, 2) := by decide +kernel
theorem dX6_dots_50 : decode cX6_dots 50 = .ok (.aload_n 0, 1) := by decide +kernel
theorem dX6_dots_51 : decode cX6_dots 51 = .ok (.getfield 25, 3) := by decide +kernel
theorem dX6_dots_54 : decode cX6_dots 54 = .ok (.iload 5, 2) := by decide +kernel
theorem dX6_dots_56 : decode cX6_dots 56 = .ok (.bipush 16, 2) := by decide +kernel
theorem dX6_dots_58 : decode cX6_dots 58 = .ok (.idiv, 1) := by decide +kernel
theorem dX6_dots_59 : decode cX6_dots 59 = .ok (.dup2, 1) := by decide +kernel
theorem dX6_dots_60 : decode cX6_dots 60 = .ok (.iaload, 1) := by decide +kernel
theorem dX6_dots_61 : decode cX6_dots 61 = .ok (.iconst 1, 1) := by decide +kernel
theorem dX6_dots_62 : decode cX6_dots 62 = .ok (.iload 5, 2) := by decide +kernel
theorem dX6_dots_64 : decode cX6_dots 64 = .ok (.bipush 16, 2) := by decide +kernel
theorem dX6_dots_66 : decode cX6_dots 66 = .ok (.irem, 1) := by decide +kernel
theorem dX6_dots_67 : decode cX6_dots 67 = .ok (.ishl, 1) := by decide +kernel
theorem dX6_dots_68 : decode cX6_dots 68 = .ok (.ixor, 1) := by decide +kernel
theorem dX6_dots_69 : decode cX6_dots 69 = .ok (.iastore, 1) := by decide +kernel
theorem dX6_dots_70 : decode cX6_dots 70 = .ok (.iinc 4 1, 3) := by decide +kernel
theorem dX6_dots_73 : decode cX6_dots 73 = .ok (.goto (-38), 3) := by decide +kernel
theorem dX6_dots_76 : decode cX6_dots 76 = .ok (.aload_n 0, 1) := by decide +kernel
theorem dX6_dots_77 : decode cX6_dots 77 = .ok (.iload_n 1, 1) := by decide +kernel
theorem dX6_dots_78 : decode cX6_dots 78 = .ok (.invokevirtual 118, 3) := by decide +kernel
theorem dX6_dots_81 : decode cX6_dots 81 = .ok (.ireturn, 1) := by decide +kernel
set_option maxRecDepth 20000 in
theorem ggX6_join_X6_in : GoodIn wsX6_join wsX6_in := goodIn_r _ [7] (by decide +kernel) (by decide +kernel)
set_option maxRecDepth 20000 in
theorem gX6_join_X6_in : GoodIn wsX6_join (va_wsS RX6 55 yX6_in wsX6_in) := goodIn_app (goodIn_of _ (by decide +kernel)) ggX6_join_X6_in
set_option maxRecDepth 20000 in
theorem ggX6_join_X6_isMask : GoodIn wsX6_join wsX6_isMask := goodIn_r _ [10, 1, 4, 5, 6, 7] (by decide +kernel) (by decide +kernel)
set_option maxRecDepth 20000 in
theorem gX6_join_X6_isMask : GoodIn wsX6_join (va_wsS RX6 103 yX6_isMask wsX6_isMask) := goodIn_app (goodIn_of _ (by decide +kernel)) ggX6_join_X6_isMask
set_option maxRecDepth 20000 in
theorem ggX6_join_X6_become : GoodIn wsX6_join wsX6_become := goodIn_r _ [14, 15, 16, 17, 6, 18, 19, 20, 21, 2, 3, 22, 23, 24, 25, 26, 27, 28, 29, 30, 31, 32, 33, 4, 5, 7, 34, 35, 36, 37, 38, 39, 40, 41, 42, 43, 44, 45, 46, 47, 48, 49, 50, 51, 52, 53, 54] (by decide +kernel) (by decide +kernel)
set_option maxRecDepth 20000 in
theorem gX6_join_X6_become : GoodIn wsX6_join (wsV RX6 118 RX6 yX6_become wsX6_become) := goodIn_app (goodIn_of _ (by decide +kernel)) ggX6_join_X6_become
theorem dX6_join_0 : decode cX6_join 0 = .ok (.iload_n 1, 1) := by decide +kernel
theorem dX6_join_1 : decode cX6_join 1 = .ok (.i2l, 1) := by decide +kernel
theorem dX6_join_2 : decode cX6_join 2 = .ok (.lconst 0, 1) := by decide +kernel
theorem dX6_join_3 : decode cX6_join 3 = .ok (.ldc2_w 63, 3) := by decide +kernel
theorem dX6_join_6 : decode cX6_join 6 = .ok (.invokestatic 55, 3) := by decide +kernel
theorem dX6_join_9 : decode cX6_join 9 = .ok (.ifCond .eq 25, 3) := by decide +kernel
theorem dX6_join_12 : decode cX6_join 12 = .ok (.iload_n 2, 1) := by decide +kernel
theorem dX6_join_13 : decode cX6_join 13 = .ok (.invokestatic 103, 3) := by decide +kernel
theorem dX6_join_16 : decode cX6_join 16 = .ok (.ifCond .eq 18, 3) := by decide +kernel
theorem dX6_join_19 : decode cX6_join 19 = .ok (.iload_n 3, 1) := by decide +kernel
theorem dX6_join_20 : decode cX6_join 20 = .ok (.invokestatic 103, 3) := by decide +kernel
theorem dX6_join_23 : decode cX6_join 23 = .ok (.ifCond .eq 11, 3) := by decide +kernel
theorem dX6_join_26 : decode cX6_join 26 = .ok (.iload 4, 2) := by decide +kernel
theorem dX6_join_28 : decode cX6_join 28 = .ok (.invokestatic 103, 3) := by decide +kernel
theorem dX6_join_31 : decode cX6_join 31 = .ok (.ifCond .ne 6, 3) := by decide +kernel
theorem dX6_join_34 : decode cX6_join 34 = .ok (.bipush (-2), 2) := by decide +kernel
theorem dX6_join_36 : decode cX6_join 36 = .ok (.ireturn, 1) := by decide +kernel
theorem dX6_join_37 : decode cX6_join 37 = .ok (.iconst 0, 1) := by decide +kernel
theorem dX6_join_38 : decode cX6_join 38 = .ok (.istore 5, 2) := by decide +kernel
theorem dX6_join_40 : decode cX6_join 40 = .ok (.iload 5, 2) := by decide +kernel
theorem dX6_join_42 : decode cX6_join 42 = .ok (.bipush 16, 2) := by decide +kernel
theorem dX6_join_44 : decode cX6_join 44 = .ok (.if_icmp .ge 89, 3) := by decide +kernel
theorem dX6_join_47 : decode cX6_join 47 = .ok (.aload_n 0, 1) := by decide +kernel
theorem dX6_join_48 : decode cX6_join 48 = .ok (.getfield 22, 3) := by decide +kernel
theorem dX6_join_51 : decode cX6_join 51 = .ok (.bipush 16, 2) := by decide +kernel
theorem dX6_join_53 : decode cX6_join 53 = .ok (.iload_n 2, 1) := by decide +kernel
theorem dX6_join_54 : decode cX6_join 54 = .ok (.imul, 1) := by decide +kernel
theorem dX6_join_55 : decode cX6_join 55 = .ok (.iload 5, 2) := by decide +kernel
theorem dX6_join_57 : decode cX6_join 57 = .ok (.iadd, 1) := by decide +kernel
theorem dX6_join_58 : decode cX6_join 58 = .ok (.iaload, 1) := by decide +kernel
theorem dX6_join_59 : decode cX6_join 59 = .ok (.istore 6, 2) := by decide +kernel
theorem dX6_join_61 : decode cX6_join 61 = .ok (.aload_n 0, 1) := by decide +kernel
theorem dX6_join_62 : decode cX6_join 62 = .ok (.getfield 22, 3) := by decide +kernel
theorem dX6_join_65 : decode cX6_join 65 = .ok (.bipush 16, 2) := by decide +kernel
theorem dX6_join_67 : decode cX6_join 67 = .ok (.iload_n 3, 1) := by decide +kernel
theorem dX6_join_68 : decode cX6_join 68 = .ok (.imul, 1) := by decide +kernel
theorem dX6_join_69 : decode cX6_join 69 = .ok (.iload 5, 2) := by decide +kernel
theorem dX6_join_71 : decode cX6_join 71 = .ok (.iadd, 1) := by decide +kernel
theorem dX6_join_72 : decode cX6_join 72 = .ok (.iaload, 1) := by decide +kernel
theorem dX6_join_73 : decode cX6_join 73 = .ok (.istore 7, 2) := by decide +kernel
theorem dX6_join_75 : decode cX6_join 75 = .ok (.aload_n 0, 1) := by decide +kernel
theorem dX6_join_76 : decode cX6_join 76 = .ok (.getfield 25, 3) := by decide +kernel
theorem dX6_join_79 : decode cX6_join 79 = .ok (.iload 5, 2) := by decide +kernel
theorem dX6_join_81 : decode cX6_join 81 = .ok (.iload_n 1, 1) := by decide +kernel
theorem dX6_join_82 : decode cX6_join 82 = .ok (.ifCond .ne 11, 3) := by decide +kernel
theorem dX6_join_85 : decode cX6_join 85 = .ok (.iload 6, 2) := by decide +kernel
theorem dX6_join_87 : decode cX6_join 87 = .ok (.iload 7, 2) := by decide +kernel
theorem dX6_join_89 : decode cX6_join 89 = .ok (.ior, 1) := by decide +kernel
theorem dX6_join_90 : decode cX6_join 90 = .ok (.goto 36, 3) := by decide +kernel
theorem dX6_join_93 : decode cX6_join 93 = .ok (.iload_n 1, 1) := by decide +kernel
theorem dX6_join_94 : decode cX6_join 94 = .ok (.iconst 1, 1) := by decide +kernel
theorem dX6_join_95 : decode cX6_join 95 = .ok (.if_icmp .ne 11, 3) := by decide +kernel
theorem dX6_join_98 : decode cX6_join 98 = .ok (.iload 6, 2) := by decide +kernel
theorem dX6_join_100 : decode cX6_join 100 = .ok (.iload 7, 2) := by decide +kernel
theorem dX6_join_102 : decode cX6_join 102 = .ok (.iand, 1) := by decide +kernel
theorem dX6_join_103 : decode cX6_join 103 = .ok (.goto 23, 3) := by decide +kernel
theorem dX6_join_106 : decode cX6_join 106 = .ok (.iload_n 1, 1) := by decide +kernel
theorem dX6_join_107 : decode cX6_join 107 = .ok (.iconst 2, 1) := by decide +kernel
theorem dX6_join_108 : decode cX6_join 108 = .ok (.if_icmp .ne 13, 3) := by decide +kernel
theorem dX6_join_111 : decode cX6_join 111 = .ok (.iload 6, 2) := by decide +kernel
theorem dX6_join_113 : decode cX6_join 113 = .ok (.iload 7, 2) := by decide +kernel
theorem dX6_join_115 : decode cX6_join 115 = .ok (.iconst (-1), 1) := by decide +kernel
theorem dX6_join_116 : decode cX6_join 116 = .ok (.ixor, 1) := by decide +kernel
theorem dX6_join_117 : decode cX6_join 117 = .ok (.iand, 1) := by decide +kernel
theorem dX6_join_118 : decode cX6_join 118 = .ok (.goto 8, 3) := by decide +kernel
theorem dX6_join_121 : decode cX6_join 121 = .ok (.iload 6, 2) := by decide +kernel
theorem dX6_join_123 : decode cX6_join 123 = .ok (.iload 7, 2) := by decide +kernel
theorem dX6_join_125 : decode cX6_join 125 = .ok (.ixor, 1) := by decide +kernel
theorem dX6_join_126 : decode cX6_join 126 = .ok (.iastore, 1) := by decide +kernel
theorem dX6_join_127 : decode cX6_join 127 = .ok (.iinc 5 1, 3) := by decide +kernel
theorem dX6_join_130 : decode cX6_join 130 = .ok (.goto (-90), 3) := by decide +kernel
theorem dX6_join_133 : decode cX6_join 133 = .ok (.aload_n 0, 1) := by decide +kernel
theorem dX6_join_134 : decode cX6_join 134 = .ok (.iload 4, 2) := by decide +kernel
theorem dX6_join_136 : decode cX6_join 136 = .ok (.invokevirtual 118, 3) := by decide +kernel
theorem dX6_join_139 : decode cX6_join 139 = .ok (.ireturn, 1) := by decide +kernel
set_option maxRecDepth 20000 in
theorem ggX6_over_X6_isMask : GoodIn wsX6_over wsX6_isMask := goodIn_r _ [7, 8, 9, 10, 6, 11] (by decide +kernel) (by decide +kernel)
set_option maxRecDepth 20000 in
theorem gX6_over_X6_isMask : GoodIn wsX6_over (va_wsS RX6 103 yX6_isMask wsX6_isMask) := goodIn_app (goodIn_of _ (by decide +kernel)) ggX6_over_X6_isMask
set_option maxRecDepth 20000 in
theorem ggX6_over_X6_become : GoodIn wsX6_over wsX6_become := goodIn_r _ [15, 16, 17, 18, 6, 19, 20, 21, 22, 3, 1, 23, 24, 25, 26, 27, 28, 29, 30, 31, 32, 33, 34, 9, 10, 11, 35, 36, 37, 38, 39, 40, 41, 42, 43, 44, 45, 46, 47, 48, 49, 50, 51, 52, 53, 54, 55] (by decide +kernel) (by decide +kernel)
set_option maxRecDepth 20000 in
theorem gX6_over_X6_become : GoodIn wsX6_over (wsV RX6 118 RX6 yX6_become wsX6_become) := goodIn_app (goodIn_of _ (by decide +kernel)) ggX6_over_X6_become
theorem dX6_over_0 : decode cX6_over 0 = .ok (.iload_n 1, 1) := by decide +kernel
theorem dX6_over_1 : decode cX6_over 1 = .ok (.invokestatic 103, 3) := by decide +kernel
theorem dX6_over_4 : decode cX6_over 4 = .ok (.ifCond .eq 10, 3) := by decide +kernel
theorem dX6_over_7 : decode cX6_over 7 = .ok (.iload_n 2, 1) := by decide +kernel
theorem dX6_over_8 : decode cX6_over 8 = .ok (.invokestatic 103, 3) := by decide +kernel
theorem dX6_over_11 : decode cX6_over 11 = .ok (.ifCond .ne 6, 3) := by decide +kernel
theorem dX6_over_14 : decode cX6_over 14 = .ok (.bipush (-2), 2) := by decide +kernel
theorem dX6_over_16 : decode cX6_over 16 = .ok (.ireturn, 1) := by decide +kernel
theorem dX6_over_17 : decode cX6_over 17 = .ok (.iconst 0, 1) := by decide +kernel
theorem dX6_over_18 : decode cX6_over 18 = .ok (.istore_n 3, 1) := by decide +kernel
theorem dX6_over_19 : decode cX6_over 19 = .ok (.iload_n 3, 1) := by decide +kernel
theorem dX6_over_20 : decode cX6_over 20 = .ok (.bipush 16, 2) := by decide +kernel
theorem dX6_over_22 : decode cX6_over 22 = .ok (.if_icmp .ge 29, 3) := by decide +kernel
theorem dX6_over_25 : decode cX6_over 25 = .ok (.aload_n 0, 1) := by decide +kernel
theorem dX6_over_26 : decode cX6_over 26 = .ok (.getfield 25, 3) := by decide +kernel
theorem dX6_over_29 : decode cX6_over 29 = .ok (.iload_n 3, 1) := by decide +kernel
theorem dX6_over_30 : decode cX6_over 30 = .ok (.ldc 130, 2) := by decide +kernel
theorem dX6_over_32 : decode cX6_over 32 = .ok (.aload_n 0, 1) := by decide +kernel
theorem dX6_over_33 : decode cX6_over 33 = .ok (.getfield 22, 3) := by decide +kernel
theorem dX6_over_36 : decode cX6_over 36 = .ok (.bipush 16, 2) := by decide +kernel
theorem dX6_over_38 : decode cX6_over 38 = .ok (.iload_n 1, 1) := by decide +kernel
theorem dX6_over_39 : decode cX6_over 39 = .ok (.imul, 1) := by decide +kernel
theorem dX6_over_40 : decode cX6_over 40 = .ok (.iload_n 3, 1) := by decide +kernel
theorem dX6_over_41 : decode cX6_over 41 = .ok (.iadd, 1) := by decide +kernel
theorem dX6_over_42 : decode cX6_over 42 = .ok (.iaload, 1) := by decide +kernel
theorem dX6_over_43 : decode cX6_over 43 = .ok (.ixor, 1) := by decide +kernel
theorem dX6_over_44 : decode cX6_over 44 = .ok (.iastore, 1) := by decide +kernel
theorem dX6_over_45 : decode cX6_over 45 = .ok (.iinc 3 1, 3) := by decide +kernel
theorem dX6_over_48 : decode cX6_over 48 = .ok (.goto (-29), 3) := by decide +kernel
theorem dX6_over_51 : decode cX6_over 51 = .ok (.aload_n 0, 1) := by decide +kernel
theorem dX6_over_52 : decode cX6_over 52 = .ok (.iload_n 2, 1) := by decide +kernel
theorem dX6_over_53 : decode cX6_over 53 = .ok (.invokevirtual 118, 3) := by decide +kernel
theorem dX6_over_56 : decode cX6_over 56 = .ok (.ireturn, 1) := by decide +kernel
set_option maxRecDepth 20000 in
theorem ggX6_move_X6_isMask : GoodIn wsX6_move wsX6_isMask := goodIn_r _ [6, 7, 8, 9, 5, 10] (by decide +kernel) (by decide +kernel)
set_option maxRecDepth 20000 in
theorem gX6_move_X6_isMask : GoodIn wsX6_move (va_wsS RX6 103 yX6_isMask wsX6_isMask) := goodIn_app (goodIn_of _ (by decide +kernel)) ggX6_move_X6_isMask
set_option maxRecDepth 20000 in
theorem ggX6_move_X6_in : GoodIn wsX6_move wsX6_in := goodIn_r _ [10] (by decide +kernel) (by decide +kernel)
set_option maxRecDepth 20000 in
theorem gX6_move_X6_in : GoodIn wsX6_move (va_wsS RX6 55 yX6_in wsX6_in) := goodIn_app (goodIn_of _ (by decide +kernel)) ggX6_move_X6_in
set_option maxRecDepth 20000 in
theorem ggX6_move_X6_clears : GoodIn wsX6_move wsX6_clears := goodIn_r _ [14, 15, 44, 45, 46, 47, 48, 49, 50, 51, 52, 53, 54, 55, 56, 57, 58, 59, 60, 61, 62, 63, 64] (by decide +kernel) (by decide +kernel)
set_option maxRecDepth 20000 in
theorem gX6_move_X6_clears : GoodIn wsX6_move (wsV RX6 133 RX6 yX6_clears wsX6_clears) := goodIn_app (goodIn_of _ (by decide +kernel)) ggX6_move_X6_clears
set_option maxRecDepth 20000 in
theorem ggX6_move_X6_dark : GoodIn wsX6_move wsX6_dark := goodIn_r _ [19, 20, 21, 22, 5, 23, 24, 8, 9, 10, 44, 45, 46, 47, 48, 49, 50, 51, 52, 53, 54, 55, 56, 57, 58, 59, 60, 61, 62, 63, 64] (by decide +kernel) (by decide +kernel)
set_option maxRecDepth 20000 in
theorem gX6_move_X6_dark : GoodIn wsX6_move (wsV RX6 90 RX6 yX6_dark wsX6_dark) := goodIn_app (goodIn_of _ (by decide +kernel)) ggX6_move_X6_dark
set_option maxRecDepth 20000 in
theorem ggX6_move_X6_sets : GoodIn wsX6_move wsX6_sets := goodIn_r _ [28, 15, 44, 45, 46, 47, 48, 49, 50, 51, 52, 53, 54, 55, 56, 57, 58, 59, 60, 61, 62, 63, 64] (by decide +kernel) (by decide +kernel)
set_option maxRecDepth 20000 in
theorem gX6_move_X6_sets : GoodIn wsX6_move (wsV RX6 114 RX6 yX6_sets wsX6_sets) := goodIn_app (goodIn_of _ (by decide +kernel)) ggX6_move_X6_sets
set_option maxRecDepth 20000 in
theorem ggX6_move_X6_become : GoodIn wsX6_move wsX6_become := goodIn_r _ [32, 33, 34, 35, 5, 36, 37, 38, 39, 20, 15, 40, 41, 42, 43, 16, 17, 18, 19, 21, 22, 23, 24, 8, 9, 10, 44, 45, 46, 47, 48, 49, 50, 51, 52, 53, 54, 55, 56, 57, 58, 59, 60, 61, 62, 63, 64] (by decide +kernel) (by decide +kernel)
set_option maxRecDepth 20000 in
theorem gX6_move_X6_become : GoodIn wsX6_move (wsV RX6 118 RX6 yX6_become wsX6_become) := goodIn_app (goodIn_of _ (by decide +kernel)) ggX6_move_X6_become
theorem dX6_move_0 : decode cX6_move 0 = .ok (.iload_n 1, 1) := by decide +kernel
theorem dX6_move_1 : decode cX6_move 1 = .ok (.invokestatic 103, 3) := by decide +kernel
theorem dX6_move_4 : decode cX6_move 4 = .ok (.ifCond .eq 39, 3) := by decide +kernel
theorem dX6_move_7 : decode cX6_move 7 = .ok (.iload_n 2, 1) := by decide +kernel
theorem dX6_move_8 : decode cX6_move 8 = .ok (.i2l, 1) := by decide +kernel
theorem dX6_move_9 : decode cX6_move 9 = .ok (.ldc2_w 131, 3) := by decide +kernel
theorem dX6_move_12 : decode cX6_move 12 = .ok (.ldc2_w 106, 3) := by decide +kernel
theorem dX6_move_15 : decode cX6_move 15 = .ok (.invokestatic 55, 3) := by decide +kernel
theorem dX6_move_18 : decode cX6_move 18 = .ok (.ifCond .eq 25, 3) := by decide +kernel
theorem dX6_move_21 : decode cX6_move 21 = .ok (.iload_n 3, 1) := by decide +kernel
theorem dX6_move_22 : decode cX6_move 22 = .ok (.i2l, 1) := by decide +kernel
theorem dX6_move_23 : decode cX6_move 23 = .ok (.ldc2_w 131, 3) := by decide +kernel
theorem dX6_move_26 : decode cX6_move 26 = .ok (.ldc2_w 106, 3) := by decide +kernel
theorem dX6_move_29 : decode cX6_move 29 = .ok (.invokestatic 55, 3) := by decide +kernel
theorem dX6_move_32 : decode cX6_move 32 = .ok (.ifCond .eq 11, 3) := by decide +kernel
theorem dX6_move_35 : decode cX6_move 35 = .ok (.iload 4, 2) := by decide +kernel
theorem dX6_move_37 : decode cX6_move 37 = .ok (.invokestatic 103, 3) := by decide +kernel
theorem dX6_move_40 : decode cX6_move 40 = .ok (.ifCond .ne 6, 3) := by decide +kernel
theorem dX6_move_43 : decode cX6_move 43 = .ok (.bipush (-2), 2) := by decide +kernel
theorem dX6_move_45 : decode cX6_move 45 = .ok (.ireturn, 1) := by decide +kernel
theorem dX6_move_46 : decode cX6_move 46 = .ok (.aload_n 0, 1) := by decide +kernel
theorem dX6_move_47 : decode cX6_move 47 = .ok (.invokevirtual 133, 3) := by decide +kernel
theorem dX6_move_50 : decode cX6_move 50 = .ok (.iconst 0, 1) := by decide +kernel
theorem dX6_move_51 : decode cX6_move 51 = .ok (.istore 5, 2) := by decide +kernel
theorem dX6_move_53 : decode cX6_move 53 = .ok (.iload 5, 2) := by decide +kernel
theorem dX6_move_55 : decode cX6_move 55 = .ok (.sipush 256, 3) := by decide +kernel
theorem dX6_move_58 : decode cX6_move 58 = .ok (.if_icmp .ge 42, 3) := by decide +kernel
theorem dX6_move_61 : decode cX6_move 61 = .ok (.aload_n 0, 1) := by decide +kernel
theorem dX6_move_62 : decode cX6_move 62 = .ok (.iload 5, 2) := by decide +kernel
theorem dX6_move_64 : decode cX6_move 64 = .ok (.bipush 16, 2) := by decide +kernel
theorem dX6_move_66 : decode cX6_move 66 = .ok (.irem, 1) := by decide +kernel
theorem dX6_move_67 : decode cX6_move 67 = .ok (.iload 5, 2) := by decide +kernel
theorem dX6_move_69 : decode cX6_move 69 = .ok (.bipush 16, 2) := by decide +kernel
theorem dX6_move_71 : decode cX6_move 71 = .ok (.idiv, 1) := by decide +kernel
theorem dX6_move_72 : decode cX6_move 72 = .ok (.aload_n 0, 1) := by decide +kernel
theorem dX6_move_73 : decode cX6_move 73 = .ok (.iload_n 1, 1) := by decide +kernel
theorem dX6_move_74 : decode cX6_move 74 = .ok (.iload 5, 2) := by decide +kernel
theorem dX6_move_76 : decode cX6_move 76 = .ok (.bipush 16, 2) := by decide +kernel
theorem dX6_move_78 : decode cX6_move 78 = .ok (.irem, 1) := by decide +kernel
theorem dX6_move_79 : decode cX6_move 79 = .ok (.iload_n 2, 1) := by decide +kernel
theorem dX6_move_80 : decode cX6_move 80 = .ok (.isub, 1) := by decide +kernel
theorem dX6_move_81 : decode cX6_move 81 = .ok (.iload 5, 2) := by decide +kernel
theorem dX6_move_83 : decode cX6_move 83 = .ok (.bipush 16, 2) := by decide +kernel
theorem dX6_move_85 : decode cX6_move 85 = .ok (.idiv, 1) := by decide +kernel
theorem dX6_move_86 : decode cX6_move 86 = .ok (.iload_n 3, 1) := by decide +kernel
theorem dX6_move_87 : decode cX6_move 87 = .ok (.isub, 1) := by decide +kernel
theorem dX6_move_88 : decode cX6_move 88 = .ok (.invokevirtual 90, 3) := by decide +kernel
theorem dX6_move_91 : decode cX6_move 91 = .ok (.invokevirtual 114, 3) := by decide +kernel
theorem dX6_move_94 : decode cX6_move 94 = .ok (.iinc 5 1, 3) := by decide +kernel
theorem dX6_move_97 : decode cX6_move 97 = .ok (.goto (-44), 3) := by decide +kernel
theorem dX6_move_100 : decode cX6_move 100 = .ok (.aload_n 0, 1) := by decide +kernel
theorem dX6_move_101 : decode cX6_move 101 = .ok (.iload 4, 2) := by decide +kernel
theorem dX6_move_103 : decode cX6_move 103 = .ok (.invokevirtual 118, 3) := by decide +kernel
theorem dX6_move_106 : decode cX6_move 106 = .ok (.ireturn, 1) := by decide +kernel
set_option maxRecDepth 20000 in
theorem ggX6_turn_X6_isMask : GoodIn wsX6_turn wsX6_isMask := goodIn_r _ [5, 1, 6, 7, 4, 8] (by decide +kernel) (by decide +kernel)
set_option maxRecDepth 20000 in
theorem gX6_turn_X6_isMask : GoodIn wsX6_turn (va_wsS RX6 103 yX6_isMask wsX6_isMask) := goodIn_app (goodIn_of _ (by decide +kernel)) ggX6_turn_X6_isMask
set_option maxRecDepth 20000 in
theorem ggX6_turn_X6_in : GoodIn wsX6_turn wsX6_in := goodIn_r _ [8] (by decide +kernel) (by decide +kernel)
set_option maxRecDepth 20000 in
theorem gX6_turn_X6_in : GoodIn wsX6_turn (va_wsS RX6 55 yX6_in wsX6_in) := goodIn_app (goodIn_of _ (by decide +kernel)) ggX6_turn_X6_in
set_option maxRecDepth 20000 in
theorem ggX6_turn_X6_clears : GoodIn wsX6_turn wsX6_clears := goodIn_r _ [12, 13, 42, 43, 44, 45, 46, 47, 48, 49, 50, 51, 52, 53, 54, 55, 56, 57, 58, 59, 60, 61, 62] (by decide +kernel) (by decide +kernel)
set_option maxRecDepth 20000 in
theorem gX6_turn_X6_clears : GoodIn wsX6_turn (wsV RX6 133 RX6 yX6_clears wsX6_clears) := goodIn_app (goodIn_of _ (by decide +kernel)) ggX6_turn_X6_clears
set_option maxRecDepth 20000 in
theorem ggX6_turn_X6_dark : GoodIn wsX6_turn wsX6_dark := goodIn_r _ [17, 18, 19, 20, 4, 21, 22, 6, 7, 8, 42, 43, 44, 45, 46, 47, 48, 49, 50, 51, 52, 53, 54, 55, 56, 57, 58, 59, 60, 61, 62] (by decide +kernel) (by decide +kernel)
set_option maxRecDepth 20000 in
theorem gX6_turn_X6_dark : GoodIn wsX6_turn (wsV RX6 90 RX6 yX6_dark wsX6_dark) := goodIn_app (goodIn_of _ (by decide +kernel)) ggX6_turn_X6_dark
set_option maxRecDepth 20000 in
theorem ggX6_turn_X6_sets : GoodIn wsX6_turn wsX6_sets := goodIn_r _ [26, 13, 42, 43, 44, 45, 46, 47, 48, 49, 50, 51, 52, 53, 54, 55, 56, 57, 58, 59, 60, 61, 62] (by decide +kernel) (by decide +kernel)
set_option maxRecDepth 20000 in
theorem gX6_turn_X6_sets : GoodIn wsX6_turn (wsV RX6 114 RX6 yX6_sets wsX6_sets) := goodIn_app (goodIn_of _ (by decide +kernel)) ggX6_turn_X6_sets
set_option maxRecDepth 20000 in
theorem ggX6_turn_X6_become : GoodIn wsX6_turn wsX6_become := goodIn_r _ [30, 31, 32, 33, 4, 34, 35, 36, 37, 18, 13, 38, 39, 40, 41, 14, 15, 16, 17, 19, 20, 21, 22, 6, 7, 8, 42, 43, 44, 45, 46, 47, 48, 49, 50, 51, 52, 53, 54, 55, 56, 57, 58, 59, 60, 61, 62] (by decide +kernel) (by decide +kernel)
set_option maxRecDepth 20000 in
theorem gX6_turn_X6_become : GoodIn wsX6_turn (wsV RX6 118 RX6 yX6_become wsX6_become) := goodIn_app (goodIn_of _ (by decide +kernel)) ggX6_turn_X6_become
theorem dX6_turn_0 : decode cX6_turn 0 = .ok (.iload_n 1, 1) := by decide +kernel
theorem dX6_turn_1 : decode cX6_turn 1 = .ok (.invokestatic 103, 3) := by decide +kernel
theorem dX6_turn_4 : decode cX6_turn 4 = .ok (.ifCond .eq 22, 3) := by decide +kernel
theorem dX6_turn_7 : decode cX6_turn 7 = .ok (.iload_n 2, 1) := by decide +kernel
theorem dX6_turn_8 : decode cX6_turn 8 = .ok (.i2l, 1) := by decide +kernel
theorem dX6_turn_9 : decode cX6_turn 9 = .ok (.lconst 0, 1) := by decide +kernel
theorem dX6_turn_10 : decode cX6_turn 10 = .ok (.ldc2_w 63, 3) := by decide +kernel
theorem dX6_turn_13 : decode cX6_turn 13 = .ok (.invokestatic 55, 3) := by decide +kernel
theorem dX6_turn_16 : decode cX6_turn 16 = .ok (.ifCond .eq 10, 3) := by decide +kernel
theorem dX6_turn_19 : decode cX6_turn 19 = .ok (.iload_n 3, 1) := by decide +kernel
theorem dX6_turn_20 : decode cX6_turn 20 = .ok (.invokestatic 103, 3) := by decide +kernel
theorem dX6_turn_23 : decode cX6_turn 23 = .ok (.ifCond .ne 6, 3) := by decide +kernel
theorem dX6_turn_26 : decode cX6_turn 26 = .ok (.bipush (-2), 2) := by decide +kernel
theorem dX6_turn_28 : decode cX6_turn 28 = .ok (.ireturn, 1) := by decide +kernel
theorem dX6_turn_29 : decode cX6_turn 29 = .ok (.aload_n 0, 1) := by decide +kernel
theorem dX6_turn_30 : decode cX6_turn 30 = .ok (.invokevirtual 133, 3) := by decide +kernel
theorem dX6_turn_33 : decode cX6_turn 33 = .ok (.iconst 0, 1) := by decide +kernel
theorem dX6_turn_34 : decode cX6_turn 34 = .ok (.istore 4, 2) := by decide +kernel
theorem dX6_turn_36 : decode cX6_turn 36 = .ok (.iload 4, 2) := by decide +kernel
theorem dX6_turn_38 : decode cX6_turn 38 = .ok (.sipush 256, 3) := by decide +kernel
theorem dX6_turn_41 : decode cX6_turn 41 = .ok (.if_icmp .ge 76, 3) := by decide +kernel
theorem dX6_turn_44 : decode cX6_turn 44 = .ok (.iload 4, 2) := by decide +kernel
theorem dX6_turn_46 : decode cX6_turn 46 = .ok (.bipush 16, 2) := by decide +kernel
theorem dX6_turn_48 : decode cX6_turn 48 = .ok (.irem, 1) := by decide +kernel
theorem dX6_turn_49 : decode cX6_turn 49 = .ok (.istore 5, 2) := by decide +kernel
theorem dX6_turn_51 : decode cX6_turn 51 = .ok (.iload 4, 2) := by decide +kernel
theorem dX6_turn_53 : decode cX6_turn 53 = .ok (.bipush 16, 2) := by decide +kernel
theorem dX6_turn_55 : decode cX6_turn 55 = .ok (.idiv, 1) := by decide +kernel
theorem dX6_turn_56 : decode cX6_turn 56 = .ok (.istore 6, 2) := by decide +kernel
theorem dX6_turn_58 : decode cX6_turn 58 = .ok (.iconst 0, 1) := by decide +kernel
theorem dX6_turn_59 : decode cX6_turn 59 = .ok (.istore 7, 2) := by decide +kernel
theorem dX6_turn_61 : decode cX6_turn 61 = .ok (.iload 7, 2) := by decide +kernel
theorem dX6_turn_63 : decode cX6_turn 63 = .ok (.iload_n 2, 1) := by decide +kernel
theorem dX6_turn_64 : decode cX6_turn 64 = .ok (.if_icmp .ge 24, 3) := by decide +kernel
theorem dX6_turn_67 : decode cX6_turn 67 = .ok (.iload 5, 2) := by decide +kernel
theorem dX6_turn_69 : decode cX6_turn 69 = .ok (.istore 8, 2) := by decide +kernel
theorem dX6_turn_71 : decode cX6_turn 71 = .ok (.bipush 15, 2) := by decide +kernel
theorem dX6_turn_73 : decode cX6_turn 73 = .ok (.iload 6, 2) := by decide +kernel
theorem dX6_turn_75 : decode cX6_turn 75 = .ok (.isub, 1) := by decide +kernel
theorem dX6_turn_76 : decode cX6_turn 76 = .ok (.istore 5, 2) := by decide +kernel
theorem dX6_turn_78 : decode cX6_turn 78 = .ok (.iload 8, 2) := by decide +kernel
theorem dX6_turn_80 : decode cX6_turn 80 = .ok (.istore 6, 2) := by decide +kernel
theorem dX6_turn_82 : decode cX6_turn 82 = .ok (.iinc 7 1, 3) := by decide +kernel
theorem dX6_turn_85 : decode cX6_turn 85 = .ok (.goto (-24), 3) := by decide +kernel
theorem dX6_turn_88 : decode cX6_turn 88 = .ok (.aload_n 0, 1) := by decide +kernel
theorem dX6_turn_89 : decode cX6_turn 89 = .ok (.iload 5, 2) := by decide +kernel
theorem dX6_turn_91 : decode cX6_turn 91 = .ok (.iload 6, 2) := by decide +kernel
theorem dX6_turn_93 : decode cX6_turn 93 = .ok (.aload_n 0, 1) := by decide +kernel
theorem dX6_turn_94 : decode cX6_turn 94 = .ok (.iload_n 1, 1) := by decide +kernel
theorem dX6_turn_95 : decode cX6_turn 95 = .ok (.iload 4, 2) := by decide +kernel
theorem dX6_turn_97 : decode cX6_turn 97 = .ok (.bipush 16, 2) := by decide +kernel
theorem dX6_turn_99 : decode cX6_turn 99 = .ok (.irem, 1) := by decide +kernel
theorem dX6_turn_100 : decode cX6_turn 100 = .ok (.iload 4, 2) := by decide +kernel
theorem dX6_turn_102 : decode cX6_turn 102 = .ok (.bipush 16, 2) := by decide +kernel
theorem dX6_turn_104 : decode cX6_turn 104 = .ok (.idiv, 1) := by decide +kernel
theorem dX6_turn_105 : decode cX6_turn 105 = .ok (.invokevirtual 90, 3) := by decide +kernel
theorem dX6_turn_108 : decode cX6_turn 108 = .ok (.invokevirtual 114, 3) := by decide +kernel
theorem dX6_turn_111 : decode cX6_turn 111 = .ok (.iinc 4 1, 3) := by decide +kernel
theorem dX6_turn_114 : decode cX6_turn 114 = .ok (.goto (-78), 3) := by decide +kernel
theorem dX6_turn_117 : decode cX6_turn 117 = .ok (.aload_n 0, 1) := by decide +kernel
theorem dX6_turn_118 : decode cX6_turn 118 = .ok (.iload_n 3, 1) := by decide +kernel
theorem dX6_turn_119 : decode cX6_turn 119 = .ok (.invokevirtual 118, 3) := by decide +kernel
theorem dX6_turn_122 : decode cX6_turn 122 = .ok (.ireturn, 1) := by decide +kernel
theorem dX6_apart_0 : decode cX6_apart 0 = .ok (.iload_n 0, 1) := by decide +kernel
theorem dX6_apart_1 : decode cX6_apart 1 = .ok (.iload_n 1, 1) := by decide +kernel
theorem dX6_apart_2 : decode cX6_apart 2 = .ok (.if_icmp .ge 9, 3) := by decide +kernel
theorem dX6_apart_5 : decode cX6_apart 5 = .ok (.iload_n 1, 1) := by decide +kernel
theorem dX6_apart_6 : decode cX6_apart 6 = .ok (.iload_n 0, 1) := by decide +kernel
theorem dX6_apart_7 : decode cX6_apart 7 = .ok (.isub, 1) := by decide +kernel
theorem dX6_apart_8 : decode cX6_apart 8 = .ok (.goto 6, 3) := by decide +kernel
theorem dX6_apart_11 : decode cX6_apart 11 = .ok (.iload_n 0, 1) := by decide +kernel
theorem dX6_apart_12 : decode cX6_apart 12 = .ok (.iload_n 1, 1) := by decide +kernel
theorem dX6_apart_13 : decode cX6_apart 13 = .ok (.isub, 1) := by decide +kernel
theorem dX6_apart_14 : decode cX6_apart 14 = .ok (.ireturn, 1) := by decide +kernel
set_option maxRecDepth 20000 in
theorem ggX6_nearOf_X6_apart : GoodIn wsX6_nearOf wsX6_apart := goodIn_r _ [4] (by decide +kernel) (by decide +kernel)
set_option maxRecDepth 20000 in
theorem gX6_nearOf_X6_apart : GoodIn wsX6_nearOf (va_wsS RX6 136 yX6_apart wsX6_apart) := goodIn_app (goodIn_of _ (by decide +kernel)) ggX6_nearOf_X6_apart
set_option maxRecDepth 20000 in
theorem ggX6_nearOf_X6_dark : GoodIn wsX6_nearOf wsX6_dark := goodIn_r _ [8, 9, 10, 11, 3, 12, 13, 14, 15, 16, 17, 18, 19, 20, 21, 22, 23, 24, 25, 26, 27, 28, 29, 30, 31, 32, 33, 34, 35, 36, 37] (by decide +kernel) (by decide +kernel)
set_option maxRecDepth 20000 in
theorem gX6_nearOf_X6_dark : GoodIn wsX6_nearOf (wsV RX6 90 RX6 yX6_dark wsX6_dark) := goodIn_app (goodIn_of _ (by decide +kernel)) ggX6_nearOf_X6_dark
theorem dX6_nearOf_0 : decode cX6_nearOf 0 = .ok (.iconst (-1), 1) := by decide +kernel
theorem dX6_nearOf_1 : decode cX6_nearOf 1 = .ok (.istore 4, 2) := by decide +kernel
theorem dX6_nearOf_3 : decode cX6_nearOf 3 = .ok (.iconst 0, 1) := by decide +kernel
theorem dX6_nearOf_4 : decode cX6_nearOf 4 = .ok (.istore 5, 2) := by decide +kernel
theorem dX6_nearOf_6 : decode cX6_nearOf 6 = .ok (.iload 5, 2) := by decide +kernel
theorem dX6_nearOf_8 : decode cX6_nearOf 8 = .ok (.sipush 256, 3) := by decide +kernel
theorem dX6_nearOf_11 : decode cX6_nearOf 11 = .ok (.if_icmp .ge 71, 3) := by decide +kernel
theorem dX6_nearOf_14 : decode cX6_nearOf 14 = .ok (.iload_n 2, 1) := by decide +kernel
theorem dX6_nearOf_15 : decode cX6_nearOf 15 = .ok (.iload 5, 2) := by decide +kernel
theorem dX6_nearOf_17 : decode cX6_nearOf 17 = .ok (.bipush 16, 2) := by decide +kernel
theorem dX6_nearOf_19 : decode cX6_nearOf 19 = .ok (.irem, 1) := by decide +kernel
theorem dX6_nearOf_20 : decode cX6_nearOf 20 = .ok (.invokestatic 136, 3) := by decide +kernel
theorem dX6_nearOf_23 : decode cX6_nearOf 23 = .ok (.iload_n 3, 1) := by decide +kernel
theorem dX6_nearOf_24 : decode cX6_nearOf 24 = .ok (.iload 5, 2) := by decide +kernel
theorem dX6_nearOf_26 : decode cX6_nearOf 26 = .ok (.bipush 16, 2) := by decide +kernel
theorem dX6_nearOf_28 : decode cX6_nearOf 28 = .ok (.idiv, 1) := by decide +kernel
theorem dX6_nearOf_29 : decode cX6_nearOf 29 = .ok (.invokestatic 136, 3) := by decide +kernel
theorem dX6_nearOf_32 : decode cX6_nearOf 32 = .ok (.iadd, 1) := by decide +kernel
theorem dX6_nearOf_33 : decode cX6_nearOf 33 = .ok (.istore 6, 2) := by decide +kernel
theorem dX6_nearOf_35 : decode cX6_nearOf 35 = .ok (.aload_n 0, 1) := by decide +kernel
theorem dX6_nearOf_36 : decode cX6_nearOf 36 = .ok (.iload_n 1, 1) := by decide +kernel
theorem dX6_nearOf_37 : decode cX6_nearOf 37 = .ok (.iload 5, 2) := by decide +kernel
theorem dX6_nearOf_39 : decode cX6_nearOf 39 = .ok (.bipush 16, 2) := by decide +kernel
theorem dX6_nearOf_41 : decode cX6_nearOf 41 = .ok (.irem, 1) := by decide +kernel
theorem dX6_nearOf_42 : decode cX6_nearOf 42 = .ok (.iload 5, 2) := by decide +kernel
theorem dX6_nearOf_44 : decode cX6_nearOf 44 = .ok (.bipush 16, 2) := by decide +kernel
theorem dX6_nearOf_46 : decode cX6_nearOf 46 = .ok (.idiv, 1) := by decide +kernel
theorem dX6_nearOf_47 : decode cX6_nearOf 47 = .ok (.invokevirtual 90, 3) := by decide +kernel
theorem dX6_nearOf_50 : decode cX6_nearOf 50 = .ok (.iconst 1, 1) := by decide +kernel
theorem dX6_nearOf_51 : decode cX6_nearOf 51 = .ok (.if_icmp .ne 21, 3) := by decide +kernel
theorem dX6_nearOf_54 : decode cX6_nearOf 54 = .ok (.iload 4, 2) := by decide +kernel
theorem dX6_nearOf_56 : decode cX6_nearOf 56 = .ok (.iconst (-1), 1) := by decide +kernel
theorem dX6_nearOf_57 : decode cX6_nearOf 57 = .ok (.if_icmp .eq 10, 3) := by decide +kernel
theorem dX6_nearOf_60 : decode cX6_nearOf 60 = .ok (.iload 6, 2) := by decide +kernel
theorem dX6_nearOf_62 : decode cX6_nearOf 62 = .ok (.iload 4, 2) := by decide +kernel
theorem dX6_nearOf_64 : decode cX6_nearOf 64 = .ok (.if_icmp .ge 8, 3) := by decide +kernel
theorem dX6_nearOf_67 : decode cX6_nearOf 67 = .ok (.iload 6, 2) := by decide +kernel
theorem dX6_nearOf_69 : decode cX6_nearOf 69 = .ok (.goto 5, 3) := by decide +kernel
theorem dX6_nearOf_72 : decode cX6_nearOf 72 = .ok (.iload 4, 2) := by decide +kernel
theorem dX6_nearOf_74 : decode cX6_nearOf 74 = .ok (.istore 4, 2) := by decide +kernel
theorem dX6_nearOf_76 : decode cX6_nearOf 76 = .ok (.iinc 5 1, 3) := by decide +kernel
theorem dX6_nearOf_79 : decode cX6_nearOf 79 = .ok (.goto (-73), 3) := by decide +kernel
theorem dX6_nearOf_82 : decode cX6_nearOf 82 = .ok (.iload 4, 2) := by decide +kernel
theorem dX6_nearOf_84 : decode cX6_nearOf 84 = .ok (.ireturn, 1) := by decide +kernel
set_option maxRecDepth 20000 in
theorem ggX6_band_X6_isMask : GoodIn wsX6_band wsX6_isMask := goodIn_r _ [5, 6, 7, 8, 4, 9] (by decide +kernel) (by decide +kernel)
set_option maxRecDepth 20000 in
theorem gX6_band_X6_isMask : GoodIn wsX6_band (va_wsS RX6 103 yX6_isMask wsX6_isMask) := goodIn_app (goodIn_of _ (by decide +kernel)) ggX6_band_X6_isMask
set_option maxRecDepth 20000 in
theorem ggX6_band_X6_in : GoodIn wsX6_band wsX6_in := goodIn_r _ [9] (by decide +kernel) (by decide +kernel)
set_option maxRecDepth 20000 in
theorem gX6_band_X6_in : GoodIn wsX6_band (va_wsS RX6 55 yX6_in wsX6_in) := goodIn_app (goodIn_of _ (by decide +kernel)) ggX6_band_X6_in
set_option maxRecDepth 20000 in
theorem ggX6_band_X6_clears : GoodIn wsX6_band wsX6_clears := goodIn_r _ [13, 14, 50, 51, 52, 53, 54, 55, 56, 57, 58, 59, 60, 61, 62, 63, 64, 65, 66, 67, 68, 69, 70] (by decide +kernel) (by decide +kernel)
set_option maxRecDepth 20000 in
theorem gX6_band_X6_clears : GoodIn wsX6_band (wsV RX6 133 RX6 yX6_clears wsX6_clears) := goodIn_app (goodIn_of _ (by decide +kernel)) ggX6_band_X6_clears
set_option maxRecDepth 20000 in
theorem ggX6_band_X6_nearOf : GoodIn wsX6_band wsX6_nearOf := goodIn_r _ [18, 19, 20, 4, 21, 22, 23, 24, 25, 26, 27, 28, 29, 30, 7, 8, 9, 50, 51, 52, 53, 54, 55, 56, 57, 58, 59, 60, 61, 62, 63, 64, 65, 66, 67, 68, 69, 70] (by decide +kernel) (by decide +kernel)
set_option maxRecDepth 20000 in
theorem gX6_band_X6_nearOf : GoodIn wsX6_band (wsV RX6 141 RX6 yX6_nearOf wsX6_nearOf) := goodIn_app (goodIn_of _ (by decide +kernel)) ggX6_band_X6_nearOf
set_option maxRecDepth 20000 in
theorem ggX6_band_X6_sets : GoodIn wsX6_band wsX6_sets := goodIn_r _ [34, 14, 50, 51, 52, 53, 54, 55, 56, 57, 58, 59, 60, 61, 62, 63, 64, 65, 66, 67, 68, 69, 70] (by decide +kernel) (by decide +kernel)
set_option maxRecDepth 20000 in
theorem gX6_band_X6_sets : GoodIn wsX6_band (wsV RX6 114 RX6 yX6_sets wsX6_sets) := goodIn_app (goodIn_of _ (by decide +kernel)) ggX6_band_X6_sets
set_option maxRecDepth 20000 in
theorem ggX6_band_X6_become : GoodIn wsX6_band wsX6_become := goodIn_r _ [38, 39, 40, 41, 4, 42, 43, 44, 45, 26, 14, 46, 47, 48, 49, 22, 23, 24, 25, 27, 28, 29, 30, 7, 8, 9, 50, 51, 52, 53, 54, 55, 56, 57, 58, 59, 60, 61, 62, 63, 64, 65, 66, 67, 68, 69, 70] (by decide +kernel) (by decide +kernel)
set_option maxRecDepth 20000 in
theorem gX6_band_X6_become : GoodIn wsX6_band (wsV RX6 118 RX6 yX6_become wsX6_become) := goodIn_app (goodIn_of _ (by decide +kernel)) ggX6_band_X6_become
theorem dX6_band_0 : decode cX6_band 0 = .ok (.iload_n 1, 1) := by decide +kernel
theorem dX6_band_1 : decode cX6_band 1 = .ok (.invokestatic 103, 3) := by decide +kernel
theorem dX6_band_4 : decode cX6_band 4 = .ok (.ifCond .eq 22, 3) := by decide +kernel
theorem dX6_band_7 : decode cX6_band 7 = .ok (.iload_n 2, 1) := by decide +kernel
theorem dX6_band_8 : decode cX6_band 8 = .ok (.i2l, 1) := by decide +kernel
theorem dX6_band_9 : decode cX6_band 9 = .ok (.lconst 0, 1) := by decide +kernel
theorem dX6_band_10 : decode cX6_band 10 = .ok (.ldc2_w 139, 3) := by decide +kernel
theorem dX6_band_13 : decode cX6_band 13 = .ok (.invokestatic 55, 3) := by decide +kernel
theorem dX6_band_16 : decode cX6_band 16 = .ok (.ifCond .eq 10, 3) := by decide +kernel
theorem dX6_band_19 : decode cX6_band 19 = .ok (.iload_n 3, 1) := by decide +kernel
theorem dX6_band_20 : decode cX6_band 20 = .ok (.invokestatic 103, 3) := by decide +kernel
theorem dX6_band_23 : decode cX6_band 23 = .ok (.ifCond .ne 6, 3) := by decide +kernel
theorem dX6_band_26 : decode cX6_band 26 = .ok (.bipush (-2), 2) := by decide +kernel
theorem dX6_band_28 : decode cX6_band 28 = .ok (.ireturn, 1) := by decide +kernel
theorem dX6_band_29 : decode cX6_band 29 = .ok (.aload_n 0, 1) := by decide +kernel
theorem dX6_band_30 : decode cX6_band 30 = .ok (.invokevirtual 133, 3) := by decide +kernel
theorem dX6_band_33 : decode cX6_band 33 = .ok (.iconst 0, 1) := by decide +kernel
theorem dX6_band_34 : decode cX6_band 34 = .ok (.istore 4, 2) := by decide +kernel
theorem dX6_band_36 : decode cX6_band 36 = .ok (.iload 4, 2) := by decide +kernel
theorem dX6_band_38 : decode cX6_band 38 = .ok (.sipush 256, 3) := by decide +kernel
theorem dX6_band_41 : decode cX6_band 41 = .ok (.if_icmp .ge 53, 3) := by decide +kernel
theorem dX6_band_44 : decode cX6_band 44 = .ok (.aload_n 0, 1) := by decide +kernel
theorem dX6_band_45 : decode cX6_band 45 = .ok (.iload 4, 2) := by decide +kernel
theorem dX6_band_47 : decode cX6_band 47 = .ok (.bipush 16, 2) := by decide +kernel
theorem dX6_band_49 : decode cX6_band 49 = .ok (.irem, 1) := by decide +kernel
theorem dX6_band_50 : decode cX6_band 50 = .ok (.iload 4, 2) := by decide +kernel
theorem dX6_band_52 : decode cX6_band 52 = .ok (.bipush 16, 2) := by decide +kernel
theorem dX6_band_54 : decode cX6_band 54 = .ok (.idiv, 1) := by decide +kernel
theorem dX6_band_55 : decode cX6_band 55 = .ok (.aload_n 0, 1) := by decide +kernel
theorem dX6_band_56 : decode cX6_band 56 = .ok (.iload_n 1, 1) := by decide +kernel
theorem dX6_band_57 : decode cX6_band 57 = .ok (.iload 4, 2) := by decide +kernel
theorem dX6_band_59 : decode cX6_band 59 = .ok (.bipush 16, 2) := by decide +kernel
theorem dX6_band_61 : decode cX6_band 61 = .ok (.irem, 1) := by decide +kernel
theorem dX6_band_62 : decode cX6_band 62 = .ok (.iload 4, 2) := by decide +kernel
theorem dX6_band_64 : decode cX6_band 64 = .ok (.bipush 16, 2) := by decide +kernel
theorem dX6_band_66 : decode cX6_band 66 = .ok (.idiv, 1) := by decide +kernel
theorem dX6_band_67 : decode cX6_band 67 = .ok (.invokevirtual 141, 3) := by decide +kernel
theorem dX6_band_70 : decode cX6_band 70 = .ok (.i2l, 1) := by decide +kernel
theorem dX6_band_71 : decode cX6_band 71 = .ok (.lconst 0, 1) := by decide +kernel
theorem dX6_band_72 : decode cX6_band 72 = .ok (.iload_n 2, 1) := by decide +kernel
theorem dX6_band_73 : decode cX6_band 73 = .ok (.i2l, 1) := by decide +kernel
theorem dX6_band_74 : decode cX6_band 74 = .ok (.invokestatic 55, 3) := by decide +kernel
theorem dX6_band_77 : decode cX6_band 77 = .ok (.ifCond .eq 7, 3) := by decide +kernel
theorem dX6_band_80 : decode cX6_band 80 = .ok (.iconst 1, 1) := by decide +kernel
theorem dX6_band_81 : decode cX6_band 81 = .ok (.goto 4, 3) := by decide +kernel
theorem dX6_band_84 : decode cX6_band 84 = .ok (.iconst 0, 1) := by decide +kernel
theorem dX6_band_85 : decode cX6_band 85 = .ok (.invokevirtual 114, 3) := by decide +kernel
theorem dX6_band_88 : decode cX6_band 88 = .ok (.iinc 4 1, 3) := by decide +kernel
theorem dX6_band_91 : decode cX6_band 91 = .ok (.goto (-55), 3) := by decide +kernel
theorem dX6_band_94 : decode cX6_band 94 = .ok (.aload_n 0, 1) := by decide +kernel
theorem dX6_band_95 : decode cX6_band 95 = .ok (.iload_n 3, 1) := by decide +kernel
theorem dX6_band_96 : decode cX6_band 96 = .ok (.invokevirtual 118, 3) := by decide +kernel
theorem dX6_band_99 : decode cX6_band 99 = .ok (.ireturn, 1) := by decide +kernel
set_option maxRecDepth 20000 in
theorem ggX6_floods_X6_isCell : GoodIn wsX6_floods wsX6_isCell := goodIn_r _ [7, 8, 9, 10, 6, 11] (by decide +kernel) (by decide +kernel)
set_option maxRecDepth 20000 in
theorem gX6_floods_X6_isCell : GoodIn wsX6_floods (va_wsS RX6 86 yX6_isCell wsX6_isCell) := goodIn_app (goodIn_of _ (by decide +kernel)) ggX6_floods_X6_isCell
set_option maxRecDepth 20000 in
theorem ggX6_floods_X6_dark : GoodIn wsX6_floods wsX6_dark := goodIn_r _ [15, 16, 4, 5, 6, 7, 8, 9, 10, 11, 17, 18, 19, 20, 21, 22, 23, 24, 25, 26, 27, 28, 29, 30, 31, 32, 33, 34, 35, 36, 37] (by decide +kernel) (by decide +kernel)
set_option maxRecDepth 20000 in
theorem gX6_floods_X6_dark : GoodIn wsX6_floods (wsV RX6 90 RX6 yX6_dark wsX6_dark) := goodIn_app (goodIn_of _ (by decide +kernel)) ggX6_floods_X6_dark
theorem dX6_floods_0 : decode cX6_floods 0 = .ok (.iconst 1, 1) := by decide +kernel
theorem dX6_floods_1 : decode cX6_floods 1 = .ok (.istore 4, 2) := by decide +kernel
theorem dX6_floods_3 : decode cX6_floods 3 = .ok (.aload_n 0, 1) := by decide +kernel
theorem dX6_floods_4 : decode cX6_floods 4 = .ok (.getfield 37, 3) := by decide +kernel
theorem dX6_floods_7 : decode cX6_floods 7 = .ok (.iconst 0, 1) := by decide +kernel
theorem dX6_floods_8 : decode cX6_floods 8 = .ok (.iload_n 3, 1) := by decide +kernel
theorem dX6_floods_9 : decode cX6_floods 9 = .ok (.iastore, 1) := by decide +kernel
theorem dX6_floods_10 : decode cX6_floods 10 = .ok (.aload_n 0, 1) := by decide +kernel
theorem dX6_floods_11 : decode cX6_floods 11 = .ok (.getfield 34, 3) := by decide +kernel
theorem dX6_floods_14 : decode cX6_floods 14 = .ok (.iload_n 3, 1) := by decide +kernel
theorem dX6_floods_15 : decode cX6_floods 15 = .ok (.aload_n 0, 1) := by decide +kernel
theorem dX6_floods_16 : decode cX6_floods 16 = .ok (.getfield 144, 3) := by decide +kernel
theorem dX6_floods_19 : decode cX6_floods 19 = .ok (.iastore, 1) := by decide +kernel
theorem dX6_floods_20 : decode cX6_floods 20 = .ok (.iload 4, 2) := by decide +kernel
theorem dX6_floods_22 : decode cX6_floods 22 = .ok (.ifCond .le 165, 3) := by decide +kernel
theorem dX6_floods_25 : decode cX6_floods 25 = .ok (.iinc 4 (-1), 3) := by decide +kernel
theorem dX6_floods_28 : decode cX6_floods 28 = .ok (.aload_n 0, 1) := by decide +kernel
theorem dX6_floods_29 : decode cX6_floods 29 = .ok (.getfield 37, 3) := by decide +kernel
theorem dX6_floods_32 : decode cX6_floods 32 = .ok (.iload 4, 2) := by decide +kernel
theorem dX6_floods_34 : decode cX6_floods 34 = .ok (.iaload, 1) := by decide +kernel
theorem dX6_floods_35 : decode cX6_floods 35 = .ok (.istore 5, 2) := by decide +kernel
theorem dX6_floods_37 : decode cX6_floods 37 = .ok (.iconst 0, 1) := by decide +kernel
theorem dX6_floods_38 : decode cX6_floods 38 = .ok (.istore 6, 2) := by decide +kernel
theorem dX6_floods_40 : decode cX6_floods 40 = .ok (.iload 6, 2) := by decide +kernel
theorem dX6_floods_42 : decode cX6_floods 42 = .ok (.iconst 4, 1) := by decide +kernel
theorem dX6_floods_43 : decode cX6_floods 43 = .ok (.if_icmp .ge 141, 3) := by decide +kernel
theorem dX6_floods_46 : decode cX6_floods 46 = .ok (.iload 5, 2) := by decide +kernel
theorem dX6_floods_48 : decode cX6_floods 48 = .ok (.bipush 16, 2) := by decide +kernel
theorem dX6_floods_50 : decode cX6_floods 50 = .ok (.irem, 1) := by decide +kernel
theorem dX6_floods_51 : decode cX6_floods 51 = .ok (.iload 6, 2) := by decide +kernel
theorem dX6_floods_53 : decode cX6_floods 53 = .ok (.ifCond .ne 7, 3) := by decide +kernel
theorem dX6_floods_56 : decode cX6_floods 56 = .ok (.iconst 1, 1) := by decide +kernel
theorem dX6_floods_57 : decode cX6_floods 57 = .ok (.goto 14, 3) := by decide +kernel
theorem dX6_floods_60 : decode cX6_floods 60 = .ok (.iload 6, 2) := by decide +kernel
theorem dX6_floods_62 : decode cX6_floods 62 = .ok (.iconst 1, 1) := by decide +kernel
theorem dX6_floods_63 : decode cX6_floods 63 = .ok (.if_icmp .ne 7, 3) := by decide +kernel
theorem dX6_floods_66 : decode cX6_floods 66 = .ok (.iconst (-1), 1) := by decide +kernel
theorem dX6_floods_67 : decode cX6_floods 67 = .ok (.goto 4, 3) := by decide +kernel
theorem dX6_floods_70 : decode cX6_floods 70 = .ok (.iconst 0, 1) := by decide +kernel
theorem dX6_floods_71 : decode cX6_floods 71 = .ok (.iadd, 1) := by decide +kernel
theorem dX6_floods_72 : decode cX6_floods 72 = .ok (.istore 7, 2) := by decide +kernel
theorem dX6_floods_74 : decode cX6_floods 74 = .ok (.iload 5, 2) := by decide +kernel
theorem dX6_floods_76 : decode cX6_floods 76 = .ok (.bipush 16, 2) := by decide +kernel
theorem dX6_floods_78 : decode cX6_floods 78 = .ok (.idiv, 1) := by decide +kernel
theorem dX6_floods_79 : decode cX6_floods 79 = .ok (.iload 6, 2) := by decide +kernel
theorem dX6_floods_81 : decode cX6_floods 81 = .ok (.iconst 2, 1) := by decide +kernel
theorem dX6_floods_82 : decode cX6_floods 82 = .ok (.if_icmp .ne 7, 3) := by decide +kernel
theorem dX6_floods_85 : decode cX6_floods 85 = .ok (.iconst 1, 1) := by decide +kernel
theorem dX6_floods_86 : decode cX6_floods 86 = .ok (.goto 14, 3) := by decide +kernel
theorem dX6_floods_89 : decode cX6_floods 89 = .ok (.iload 6, 2) := by decide +kernel
theorem dX6_floods_91 : decode cX6_floods 91 = .ok (.iconst 3, 1) := by decide +kernel
theorem dX6_floods_92 : decode cX6_floods 92 = .ok (.if_icmp .ne 7, 3) := by decide +kernel
theorem dX6_floods_95 : decode cX6_floods 95 = .ok (.iconst (-1), 1) := by decide +kernel
theorem dX6_floods_96 : decode cX6_floods 96 = .ok (.goto 4, 3) := by decide +kernel
theorem dX6_floods_99 : decode cX6_floods 99 = .ok (.iconst 0, 1) := by decide +kernel
theorem dX6_floods_100 : decode cX6_floods 100 = .ok (.iadd, 1) := by decide +kernel
theorem dX6_floods_101 : decode cX6_floods 101 = .ok (.istore 8, 2) := by decide +kernel
theorem dX6_floods_103 : decode cX6_floods 103 = .ok (.iload 7, 2) := by decide +kernel
theorem dX6_floods_105 : decode cX6_floods 105 = .ok (.iload 8, 2) := by decide +kernel
theorem dX6_floods_107 : decode cX6_floods 107 = .ok (.invokestatic 86, 3) := by decide +kernel
theorem dX6_floods_110 : decode cX6_floods 110 = .ok (.ifCond .eq 68, 3) := by decide +kernel
theorem dX6_floods_113 : decode cX6_floods 113 = .ok (.aload_n 0, 1) := by decide +kernel
theorem dX6_floods_114 : decode cX6_floods 114 = .ok (.getfield 34, 3) := by decide +kernel
theorem dX6_floods_117 : decode cX6_floods 117 = .ok (.bipush 16, 2) := by decide +kernel
theorem dX6_floods_119 : decode cX6_floods 119 = .ok (.iload 8, 2) := by decide +kernel
theorem dX6_floods_121 : decode cX6_floods 121 = .ok (.imul, 1) := by decide +kernel
theorem dX6_floods_122 : decode cX6_floods 122 = .ok (.iload 7, 2) := by decide +kernel
theorem dX6_floods_124 : decode cX6_floods 124 = .ok (.iadd, 1) := by decide +kernel
theorem dX6_floods_125 : decode cX6_floods 125 = .ok (.iaload, 1) := by decide +kernel
theorem dX6_floods_126 : decode cX6_floods 126 = .ok (.iconst (-1), 1) := by decide +kernel
theorem dX6_floods_127 : decode cX6_floods 127 = .ok (.if_icmp .ne 51, 3) := by decide +kernel
theorem dX6_floods_130 : decode cX6_floods 130 = .ok (.aload_n 0, 1) := by decide +kernel
theorem dX6_floods_131 : decode cX6_floods 131 = .ok (.iload_n 1, 1) := by decide +kernel
theorem dX6_floods_132 : decode cX6_floods 132 = .ok (.iload 7, 2) := by decide +kernel
theorem dX6_floods_134 : decode cX6_floods 134 = .ok (.iload 8, 2) := by decide +kernel
theorem dX6_floods_136 : decode cX6_floods 136 = .ok (.invokevirtual 90, 3) := by decide +kernel
theorem dX6_floods_139 : decode cX6_floods 139 = .ok (.iload_n 2, 1) := by decide +kernel
theorem dX6_floods_140 : decode cX6_floods 140 = .ok (.if_icmp .ne 38, 3) := by decide +kernel
theorem dX6_floods_143 : decode cX6_floods 143 = .ok (.aload_n 0, 1) := by decide +kernel
theorem dX6_floods_144 : decode cX6_floods 144 = .ok (.getfield 34, 3) := by decide +kernel
theorem dX6_floods_147 : decode cX6_floods 147 = .ok (.bipush 16, 2) := by decide +kernel
theorem dX6_floods_149 : decode cX6_floods 149 = .ok (.iload 8, 2) := by decide +kernel
theorem dX6_floods_151 : decode cX6_floods 151 = .ok (.imul, 1) := by decide +kernel
theorem dX6_floods_152 : decode cX6_floods 152 = .ok (.iload 7, 2) := by decide +kernel
theorem dX6_floods_154 : decode cX6_floods 154 = .ok (.iadd, 1) := by decide +kernel
theorem dX6_floods_155 : decode cX6_floods 155 = .ok (.aload_n 0, 1) := by decide +kernel
theorem dX6_floods_156 : decode cX6_floods 156 = .ok (.getfield 144, 3) := by decide +kernel
theorem dX6_floods_159 : decode cX6_floods 159 = .ok (.iastore, 1) := by decide +kernel
theorem dX6_floods_160 : decode cX6_floods 160 = .ok (.aload_n 0, 1) := by decide +kernel
theorem dX6_floods_161 : decode cX6_floods 161 = .ok (.getfield 37, 3) := by decide +kernel
theorem dX6_floods_164 : decode cX6_floods 164 = .ok (.iload 4, 2) := by decide +kernel
theorem dX6_floods_166 : decode cX6_floods 166 = .ok (.bipush 16, 2) := by decide +kernel
theorem dX6_floods_168 : decode cX6_floods 168 = .ok (.iload 8, 2) := by decide +kernel
theorem dX6_floods_170 : decode cX6_floods 170 = .ok (.imul, 1) := by decide +kernel
theorem dX6_floods_171 : decode cX6_floods 171 = .ok (.iload 7, 2) := by decide +kernel
theorem dX6_floods_173 : decode cX6_floods 173 = .ok (.iadd, 1) := by decide +kernel
theorem dX6_floods_174 : decode cX6_floods 174 = .ok (.iastore, 1) := by decide +kernel
theorem dX6_floods_175 : decode cX6_floods 175 = .ok (.iinc 4 1, 3) := by decide +kernel
theorem dX6_floods_178 : decode cX6_floods 178 = .ok (.iinc 6 1, 3) := by decide +kernel
theorem dX6_floods_181 : decode cX6_floods 181 = .ok (.goto (-141), 3) := by decide +kernel
theorem dX6_floods_184 : decode cX6_floods 184 = .ok (.goto (-164), 3) := by decide +kernel
theorem dX6_floods_187 : decode cX6_floods 187 = .ok (.aload_n 0, 1) := by decide +kernel
theorem dX6_floods_188 : decode cX6_floods 188 = .ok (.dup, 1) := by decide +kernel
theorem dX6_floods_189 : decode cX6_floods 189 = .ok (.getfield 144, 3) := by decide +kernel
theorem dX6_floods_192 : decode cX6_floods 192 = .ok (.iconst 1, 1) := by decide +kernel
theorem dX6_floods_193 : decode cX6_floods 193 = .ok (.iadd, 1) := by decide +kernel
theorem dX6_floods_194 : decode cX6_floods 194 = .ok (.putfield 144, 3) := by decide +kernel
theorem dX6_floods_197 : decode cX6_floods 197 = .ok (.return_, 1) := by decide +kernel
set_option maxRecDepth 20000 in
theorem ggX6_labels_X6_dark : GoodIn wsX6_labels wsX6_dark := goodIn_r _ [7, 8, 9, 10, 6, 11, 12, 13, 14, 15, 21, 22, 23, 24, 25, 26, 27, 28, 29, 30, 31, 32, 33, 34, 35, 36, 37, 38, 39, 40, 41] (by decide +kernel) (by decide +kernel)
set_option maxRecDepth 20000 in
theorem gX6_labels_X6_dark : GoodIn wsX6_labels (wsV RX6 90 RX6 yX6_dark wsX6_dark) := goodIn_app (goodIn_of _ (by decide +kernel)) ggX6_labels_X6_dark
set_option maxRecDepth 20000 in
theorem ggX6_labels_X6_floods : GoodIn wsX6_labels wsX6_floods := goodIn_r _ [19, 20, 2, 1, 9, 10, 6, 11, 12, 13, 14, 15, 3, 4, 5, 7, 8, 21, 22, 23, 24, 25, 26, 27, 28, 29, 30, 31, 32, 33, 34, 35, 36, 37, 38, 39, 40, 41] (by decide +kernel) (by decide +kernel)
set_option maxRecDepth 20000 in
theorem gX6_labels_X6_floods : GoodIn wsX6_labels (wsV RX6 147 RX6 yX6_floods wsX6_floods) := goodIn_app (goodIn_of _ (by decide +kernel)) ggX6_labels_X6_floods
theorem dX6_labels_0 : decode cX6_labels 0 = .ok (.aload_n 0, 1) := by decide +kernel
theorem dX6_labels_1 : decode cX6_labels 1 = .ok (.iconst 0, 1) := by decide +kernel
theorem dX6_labels_2 : decode cX6_labels 2 = .ok (.putfield 144, 3) := by decide +kernel
theorem dX6_labels_5 : decode cX6_labels 5 = .ok (.iconst 0, 1) := by decide +kernel
theorem dX6_labels_6 : decode cX6_labels 6 = .ok (.istore_n 3, 1) := by decide +kernel
theorem dX6_labels_7 : decode cX6_labels 7 = .ok (.iload_n 3, 1) := by decide +kernel
theorem dX6_labels_8 : decode cX6_labels 8 = .ok (.sipush 256, 3) := by decide +kernel
theorem dX6_labels_11 : decode cX6_labels 11 = .ok (.if_icmp .ge 16, 3) := by decide +kernel
theorem dX6_labels_14 : decode cX6_labels 14 = .ok (.aload_n 0, 1) := by decide +kernel
theorem dX6_labels_15 : decode cX6_labels 15 = .ok (.getfield 34, 3) := by decide +kernel
theorem dX6_labels_18 : decode cX6_labels 18 = .ok (.iload_n 3, 1) := by decide +kernel
theorem dX6_labels_19 : decode cX6_labels 19 = .ok (.iconst (-1), 1) := by decide +kernel
theorem dX6_labels_20 : decode cX6_labels 20 = .ok (.iastore, 1) := by decide +kernel
theorem dX6_labels_21 : decode cX6_labels 21 = .ok (.iinc 3 1, 3) := by decide +kernel
theorem dX6_labels_24 : decode cX6_labels 24 = .ok (.goto (-17), 3) := by decide +kernel
theorem dX6_labels_27 : decode cX6_labels 27 = .ok (.iconst 0, 1) := by decide +kernel
theorem dX6_labels_28 : decode cX6_labels 28 = .ok (.istore_n 3, 1) := by decide +kernel
theorem dX6_labels_29 : decode cX6_labels 29 = .ok (.iload_n 3, 1) := by decide +kernel
theorem dX6_labels_30 : decode cX6_labels 30 = .ok (.sipush 256, 3) := by decide +kernel
theorem dX6_labels_33 : decode cX6_labels 33 = .ok (.if_icmp .ge 43, 3) := by decide +kernel
theorem dX6_labels_36 : decode cX6_labels 36 = .ok (.aload_n 0, 1) := by decide +kernel
theorem dX6_labels_37 : decode cX6_labels 37 = .ok (.getfield 34, 3) := by decide +kernel
theorem dX6_labels_40 : decode cX6_labels 40 = .ok (.iload_n 3, 1) := by decide +kernel
theorem dX6_labels_41 : decode cX6_labels 41 = .ok (.iaload, 1) := by decide +kernel
theorem dX6_labels_42 : decode cX6_labels 42 = .ok (.iconst (-1), 1) := by decide +kernel
theorem dX6_labels_43 : decode cX6_labels 43 = .ok (.if_icmp .ne 27, 3) := by decide +kernel
theorem dX6_labels_46 : decode cX6_labels 46 = .ok (.aload_n 0, 1) := by decide +kernel
theorem dX6_labels_47 : decode cX6_labels 47 = .ok (.iload_n 1, 1) := by decide +kernel
theorem dX6_labels_48 : decode cX6_labels 48 = .ok (.iload_n 3, 1) := by decide +kernel
theorem dX6_labels_49 : decode cX6_labels 49 = .ok (.bipush 16, 2) := by decide +kernel
theorem dX6_labels_51 : decode cX6_labels 51 = .ok (.irem, 1) := by decide +kernel
theorem dX6_labels_52 : decode cX6_labels 52 = .ok (.iload_n 3, 1) := by decide +kernel
theorem dX6_labels_53 : decode cX6_labels 53 = .ok (.bipush 16, 2) := by decide +kernel
theorem dX6_labels_55 : decode cX6_labels 55 = .ok (.idiv, 1) := by decide +kernel
theorem dX6_labels_56 : decode cX6_labels 56 = .ok (.invokevirtual 90, 3) := by decide +kernel
theorem dX6_labels_59 : decode cX6_labels 59 = .ok (.iload_n 2, 1) := by decide +kernel
theorem dX6_labels_60 : decode cX6_labels 60 = .ok (.if_icmp .ne 10, 3) := by decide +kernel
theorem dX6_labels_63 : decode cX6_labels 63 = .ok (.aload_n 0, 1) := by decide +kernel
theorem dX6_labels_64 : decode cX6_labels 64 = .ok (.iload_n 1, 1) := by decide +kernel
theorem dX6_labels_65 : decode cX6_labels 65 = .ok (.iload_n 2, 1) := by decide +kernel
theorem dX6_labels_66 : decode cX6_labels 66 = .ok (.iload_n 3, 1) := by decide +kernel
theorem dX6_labels_67 : decode cX6_labels 67 = .ok (.invokevirtual 147, 3) := by decide +kernel
theorem dX6_labels_70 : decode cX6_labels 70 = .ok (.iinc 3 1, 3) := by decide +kernel
theorem dX6_labels_73 : decode cX6_labels 73 = .ok (.goto (-44), 3) := by decide +kernel
theorem dX6_labels_76 : decode cX6_labels 76 = .ok (.return_, 1) := by decide +kernel
