theorem dX0_init_0 : decode cX0_init 0 = .ok (.aload_n 0, 1) := by decide +kernel
theorem dX0_init_1 : decode cX0_init 1 = .ok (.invokespecial 3, 3) := by decide +kernel
theorem dX0_init_4 : decode cX0_init 4 = .ok (.aload_n 0, 1) := by decide +kernel
theorem dX0_init_5 : decode cX0_init 5 = .ok (.bipush 40, 2) := by decide +kernel
theorem dX0_init_7 : decode cX0_init 7 = .ok (.newarray .int, 2) := by decide +kernel
theorem dX0_init_9 : decode cX0_init 9 = .ok (.putfield 9, 3) := by decide +kernel
theorem dX0_init_12 : decode cX0_init 12 = .ok (.aload_n 0, 1) := by decide +kernel
theorem dX0_init_13 : decode cX0_init 13 = .ok (.sipush 640, 3) := by decide +kernel
theorem dX0_init_16 : decode cX0_init 16 = .ok (.newarray .int, 2) := by decide +kernel
theorem dX0_init_18 : decode cX0_init 18 = .ok (.putfield 15, 3) := by decide +kernel
theorem dX0_init_21 : decode cX0_init 21 = .ok (.aload_n 0, 1) := by decide +kernel
theorem dX0_init_22 : decode cX0_init 22 = .ok (.iconst 0, 1) := by decide +kernel
theorem dX0_init_23 : decode cX0_init 23 = .ok (.putfield 18, 3) := by decide +kernel
theorem dX0_init_26 : decode cX0_init 26 = .ok (.aload_n 0, 1) := by decide +kernel
theorem dX0_init_27 : decode cX0_init 27 = .ok (.iconst 0, 1) := by decide +kernel
theorem dX0_init_28 : decode cX0_init 28 = .ok (.putfield 22, 3) := by decide +kernel
theorem dX0_init_31 : decode cX0_init 31 = .ok (.return_, 1) := by decide +kernel
set_option maxRecDepth 20000 in
theorem ggX0_keep_J9_floorMod_7cf53 : GoodIn wsX0_keep wsJ9_floorMod_7cf53 := goodIn_r _ [12] (by decide +kernel) (by decide +kernel)
set_option maxRecDepth 20000 in
theorem gX0_keep_J9_floorMod_7cf53 : GoodIn wsX0_keep (va_wsS RX0 25 yJ9_floorMod_7cf53 wsJ9_floorMod_7cf53) := goodIn_app (goodIn_of _ (by decide +kernel)) ggX0_keep_J9_floorMod_7cf53
set_option maxRecDepth 20000 in
theorem ggX0_keep_X1_row : GoodIn wsX0_keep wsX1_row := goodIn_r _ [17, 18, 23] (by decide +kernel) (by decide +kernel)
set_option maxRecDepth 20000 in
theorem gX0_keep_X1_row : GoodIn wsX0_keep (wsV RX0 31 RX1 yX1_row wsX1_row) := goodIn_app (goodIn_of _ (by decide +kernel)) ggX0_keep_X1_row
theorem dX0_keep_0 : decode cX0_keep 0 = .ok (.aload_n 0, 1) := by decide +kernel
theorem dX0_keep_1 : decode cX0_keep 1 = .ok (.getfield 18, 3) := by decide +kernel
theorem dX0_keep_4 : decode cX0_keep 4 = .ok (.bipush 40, 2) := by decide +kernel
theorem dX0_keep_6 : decode cX0_keep 6 = .ok (.invokestatic 25, 3) := by decide +kernel
theorem dX0_keep_9 : decode cX0_keep 9 = .ok (.istore_n 3, 1) := by decide +kernel
theorem dX0_keep_10 : decode cX0_keep 10 = .ok (.aload_n 0, 1) := by decide +kernel
theorem dX0_keep_11 : decode cX0_keep 11 = .ok (.getfield 9, 3) := by decide +kernel
theorem dX0_keep_14 : decode cX0_keep 14 = .ok (.iload_n 3, 1) := by decide +kernel
theorem dX0_keep_15 : decode cX0_keep 15 = .ok (.iload_n 1, 1) := by decide +kernel
theorem dX0_keep_16 : decode cX0_keep 16 = .ok (.iastore, 1) := by decide +kernel
theorem dX0_keep_17 : decode cX0_keep 17 = .ok (.iconst 0, 1) := by decide +kernel
theorem dX0_keep_18 : decode cX0_keep 18 = .ok (.istore 4, 2) := by decide +kernel
theorem dX0_keep_20 : decode cX0_keep 20 = .ok (.iload 4, 2) := by decide +kernel
theorem dX0_keep_22 : decode cX0_keep 22 = .ok (.bipush 16, 2) := by decide +kernel
theorem dX0_keep_24 : decode cX0_keep 24 = .ok (.if_icmp .ge 27, 3) := by decide +kernel
theorem dX0_keep_27 : decode cX0_keep 27 = .ok (.aload_n 0, 1) := by decide +kernel
theorem dX0_keep_28 : decode cX0_keep 28 = .ok (.getfield 15, 3) := by decide +kernel
theorem dX0_keep_31 : decode cX0_keep 31 = .ok (.iload_n 3, 1) := by decide +kernel
theorem dX0_keep_32 : decode cX0_keep 32 = .ok (.bipush 16, 2) := by decide +kernel
theorem dX0_keep_34 : decode cX0_keep 34 = .ok (.imul, 1) := by decide +kernel
theorem dX0_keep_35 : decode cX0_keep 35 = .ok (.iload 4, 2) := by decide +kernel
theorem dX0_keep_37 : decode cX0_keep 37 = .ok (.iadd, 1) := by decide +kernel
theorem dX0_keep_38 : decode cX0_keep 38 = .ok (.aload_n 2, 1) := by decide +kernel
theorem dX0_keep_39 : decode cX0_keep 39 = .ok (.iload 4, 2) := by decide +kernel
theorem dX0_keep_41 : decode cX0_keep 41 = .ok (.invokevirtual 31, 3) := by decide +kernel
theorem dX0_keep_44 : decode cX0_keep 44 = .ok (.iastore, 1) := by decide +kernel
theorem dX0_keep_45 : decode cX0_keep 45 = .ok (.iinc 4 1, 3) := by decide +kernel
theorem dX0_keep_48 : decode cX0_keep 48 = .ok (.goto (-28), 3) := by decide +kernel
theorem dX0_keep_51 : decode cX0_keep 51 = .ok (.aload_n 0, 1) := by decide +kernel
theorem dX0_keep_52 : decode cX0_keep 52 = .ok (.iload_n 3, 1) := by decide +kernel
theorem dX0_keep_53 : decode cX0_keep 53 = .ok (.iconst 1, 1) := by decide +kernel
theorem dX0_keep_54 : decode cX0_keep 54 = .ok (.iadd, 1) := by decide +kernel
theorem dX0_keep_55 : decode cX0_keep 55 = .ok (.putfield 18, 3) := by decide +kernel
theorem dX0_keep_58 : decode cX0_keep 58 = .ok (.aload_n 0, 1) := by decide +kernel
theorem dX0_keep_59 : decode cX0_keep 59 = .ok (.aload_n 0, 1) := by decide +kernel
theorem dX0_keep_60 : decode cX0_keep 60 = .ok (.getfield 22, 3) := by decide +kernel
theorem dX0_keep_63 : decode cX0_keep 63 = .ok (.iconst 1, 1) := by decide +kernel
theorem dX0_keep_64 : decode cX0_keep 64 = .ok (.iadd, 1) := by decide +kernel
theorem dX0_keep_65 : decode cX0_keep 65 = .ok (.bipush 40, 2) := by decide +kernel
theorem dX0_keep_67 : decode cX0_keep 67 = .ok (.invokestatic 37, 3) := by decide +kernel
theorem dX0_keep_70 : decode cX0_keep 70 = .ok (.putfield 22, 3) := by decide +kernel
theorem dX0_keep_73 : decode cX0_keep 73 = .ok (.return_, 1) := by decide +kernel
set_option maxRecDepth 20000 in
theorem ggX0_undo_J9_floorMod_7cf53 : GoodIn wsX0_undo wsJ9_floorMod_7cf53 := goodIn_r _ [8] (by decide +kernel) (by decide +kernel)
set_option maxRecDepth 20000 in
theorem gX0_undo_J9_floorMod_7cf53 : GoodIn wsX0_undo (va_wsS RX0 25 yJ9_floorMod_7cf53 wsJ9_floorMod_7cf53) := goodIn_app (goodIn_of _ (by decide +kernel)) ggX0_undo_J9_floorMod_7cf53
set_option maxRecDepth 20000 in
theorem ggX0_undo_X1_setRow : GoodIn wsX0_undo wsX1_setRow := goodIn_r _ [13, 14, 15, 16, 17, 18, 23] (by decide +kernel) (by decide +kernel)
set_option maxRecDepth 20000 in
theorem gX0_undo_X1_setRow : GoodIn wsX0_undo (wsV RX0 40 RX1 yX1_setRow wsX1_setRow) := goodIn_app (goodIn_of _ (by decide +kernel)) ggX0_undo_X1_setRow
theorem dX0_undo_0 : decode cX0_undo 0 = .ok (.aload_n 0, 1) := by decide +kernel
theorem dX0_undo_1 : decode cX0_undo 1 = .ok (.getfield 22, 3) := by decide +kernel
theorem dX0_undo_4 : decode cX0_undo 4 = .ok (.ifCond .ne 5, 3) := by decide +kernel
theorem dX0_undo_7 : decode cX0_undo 7 = .ok (.iconst (-1), 1) := by decide +kernel
theorem dX0_undo_8 : decode cX0_undo 8 = .ok (.ireturn, 1) := by decide +kernel
theorem dX0_undo_9 : decode cX0_undo 9 = .ok (.aload_n 0, 1) := by decide +kernel
theorem dX0_undo_10 : decode cX0_undo 10 = .ok (.aload_n 0, 1) := by decide +kernel
theorem dX0_undo_11 : decode cX0_undo 11 = .ok (.getfield 18, 3) := by decide +kernel
theorem dX0_undo_14 : decode cX0_undo 14 = .ok (.iconst 1, 1) := by decide +kernel
theorem dX0_undo_15 : decode cX0_undo 15 = .ok (.isub, 1) := by decide +kernel
theorem dX0_undo_16 : decode cX0_undo 16 = .ok (.bipush 40, 2) := by decide +kernel
theorem dX0_undo_18 : decode cX0_undo 18 = .ok (.invokestatic 25, 3) := by decide +kernel
theorem dX0_undo_21 : decode cX0_undo 21 = .ok (.putfield 18, 3) := by decide +kernel
theorem dX0_undo_24 : decode cX0_undo 24 = .ok (.aload_n 0, 1) := by decide +kernel
theorem dX0_undo_25 : decode cX0_undo 25 = .ok (.dup, 1) := by decide +kernel
theorem dX0_undo_26 : decode cX0_undo 26 = .ok (.getfield 22, 3) := by decide +kernel
theorem dX0_undo_29 : decode cX0_undo 29 = .ok (.iconst 1, 1) := by decide +kernel
theorem dX0_undo_30 : decode cX0_undo 30 = .ok (.isub, 1) := by decide +kernel
theorem dX0_undo_31 : decode cX0_undo 31 = .ok (.putfield 22, 3) := by decide +kernel
theorem dX0_undo_34 : decode cX0_undo 34 = .ok (.iconst 0, 1) := by decide +kernel
theorem dX0_undo_35 : decode cX0_undo 35 = .ok (.istore_n 2, 1) := by decide +kernel
theorem dX0_undo_36 : decode cX0_undo 36 = .ok (.iload_n 2, 1) := by decide +kernel
theorem dX0_undo_37 : decode cX0_undo 37 = .ok (.bipush 16, 2) := by decide +kernel
theorem dX0_undo_39 : decode cX0_undo 39 = .ok (.if_icmp .ge 28, 3) := by decide +kernel
theorem dX0_undo_42 : decode cX0_undo 42 = .ok (.aload_n 1, 1) := by decide +kernel
theorem dX0_undo_43 : decode cX0_undo 43 = .ok (.iload_n 2, 1) := by decide +kernel
theorem dX0_undo_44 : decode cX0_undo 44 = .ok (.aload_n 0, 1) := by decide +kernel
theorem dX0_undo_45 : decode cX0_undo 45 = .ok (.getfield 15, 3) := by decide +kernel
theorem dX0_undo_48 : decode cX0_undo 48 = .ok (.aload_n 0, 1) := by decide +kernel
theorem dX0_undo_49 : decode cX0_undo 49 = .ok (.getfield 18, 3) := by decide +kernel
theorem dX0_undo_52 : decode cX0_undo 52 = .ok (.bipush 16, 2) := by decide +kernel
theorem dX0_undo_54 : decode cX0_undo 54 = .ok (.imul, 1) := by decide +kernel
theorem dX0_undo_55 : decode cX0_undo 55 = .ok (.iload_n 2, 1) := by decide +kernel
theorem dX0_undo_56 : decode cX0_undo 56 = .ok (.iadd, 1) := by decide +kernel
theorem dX0_undo_57 : decode cX0_undo 57 = .ok (.iaload, 1) := by decide +kernel
theorem dX0_undo_58 : decode cX0_undo 58 = .ok (.invokevirtual 40, 3) := by decide +kernel
theorem dX0_undo_61 : decode cX0_undo 61 = .ok (.iinc 2 1, 3) := by decide +kernel
theorem dX0_undo_64 : decode cX0_undo 64 = .ok (.goto (-28), 3) := by decide +kernel
theorem dX0_undo_67 : decode cX0_undo 67 = .ok (.aload_n 0, 1) := by decide +kernel
theorem dX0_undo_68 : decode cX0_undo 68 = .ok (.getfield 9, 3) := by decide +kernel
theorem dX0_undo_71 : decode cX0_undo 71 = .ok (.aload_n 0, 1) := by decide +kernel
theorem dX0_undo_72 : decode cX0_undo 72 = .ok (.getfield 18, 3) := by decide +kernel
theorem dX0_undo_75 : decode cX0_undo 75 = .ok (.iaload, 1) := by decide +kernel
theorem dX0_undo_76 : decode cX0_undo 76 = .ok (.ireturn, 1) := by decide +kernel
theorem dX1_init_0 : decode cX1_init 0 = .ok (.aload_n 0, 1) := by decide +kernel
theorem dX1_init_1 : decode cX1_init 1 = .ok (.invokespecial 3, 3) := by decide +kernel
theorem dX1_init_4 : decode cX1_init 4 = .ok (.aload_n 0, 1) := by decide +kernel
theorem dX1_init_5 : decode cX1_init 5 = .ok (.bipush 16, 2) := by decide +kernel
theorem dX1_init_7 : decode cX1_init 7 = .ok (.newarray .int, 2) := by decide +kernel
theorem dX1_init_9 : decode cX1_init 9 = .ok (.putfield 9, 3) := by decide +kernel
theorem dX1_init_12 : decode cX1_init 12 = .ok (.return_, 1) := by decide +kernel
theorem dX1_row_0 : decode cX1_row 0 = .ok (.iload_n 1, 1) := by decide +kernel
theorem dX1_row_1 : decode cX1_row 1 = .ok (.ifCond .lt 18, 3) := by decide +kernel
theorem dX1_row_4 : decode cX1_row 4 = .ok (.iload_n 1, 1) := by decide +kernel
theorem dX1_row_5 : decode cX1_row 5 = .ok (.bipush 16, 2) := by decide +kernel
theorem dX1_row_7 : decode cX1_row 7 = .ok (.if_icmp .ge 12, 3) := by decide +kernel
theorem dX1_row_10 : decode cX1_row 10 = .ok (.aload_n 0, 1) := by decide +kernel
theorem dX1_row_11 : decode cX1_row 11 = .ok (.getfield 9, 3) := by decide +kernel
theorem dX1_row_14 : decode cX1_row 14 = .ok (.iload_n 1, 1) := by decide +kernel
theorem dX1_row_15 : decode cX1_row 15 = .ok (.iaload, 1) := by decide +kernel
theorem dX1_row_16 : decode cX1_row 16 = .ok (.goto 4, 3) := by decide +kernel
theorem dX1_row_19 : decode cX1_row 19 = .ok (.iconst 0, 1) := by decide +kernel
theorem dX1_row_20 : decode cX1_row 20 = .ok (.ireturn, 1) := by decide +kernel
set_option maxRecDepth 20000 in
theorem ggX1_setRow_X5_within : GoodIn wsX1_setRow wsX5_within := goodIn_r _ [5] (by decide +kernel) (by decide +kernel)
set_option maxRecDepth 20000 in
theorem gX1_setRow_X5_within_n15 : GoodIn wsX1_setRow (wsX5_within) := ggX1_setRow_X5_within
theorem dX1_setRow_0 : decode cX1_setRow 0 = .ok (.iload_n 1, 1) := by decide +kernel
theorem dX1_setRow_1 : decode cX1_setRow 1 = .ok (.bipush 16, 2) := by decide +kernel
theorem dX1_setRow_3 : decode cX1_setRow 3 = .ok (.invokestatic 15, 3) := by decide +kernel
theorem dX1_setRow_6 : decode cX1_setRow 6 = .ok (.ifCond .eq 13, 3) := by decide +kernel
theorem dX1_setRow_9 : decode cX1_setRow 9 = .ok (.aload_n 0, 1) := by decide +kernel
theorem dX1_setRow_10 : decode cX1_setRow 10 = .ok (.getfield 9, 3) := by decide +kernel
theorem dX1_setRow_13 : decode cX1_setRow 13 = .ok (.iload_n 1, 1) := by decide +kernel
theorem dX1_setRow_14 : decode cX1_setRow 14 = .ok (.iload_n 2, 1) := by decide +kernel
theorem dX1_setRow_15 : decode cX1_setRow 15 = .ok (.ldc 19, 2) := by decide +kernel
theorem dX1_setRow_17 : decode cX1_setRow 17 = .ok (.iand, 1) := by decide +kernel
theorem dX1_setRow_18 : decode cX1_setRow 18 = .ok (.iastore, 1) := by decide +kernel
theorem dX1_setRow_19 : decode cX1_setRow 19 = .ok (.return_, 1) := by decide +kernel
theorem dX1_isDark_0 : decode cX1_isDark 0 = .ok (.iload_n 1, 1) := by decide +kernel
theorem dX1_isDark_1 : decode cX1_isDark 1 = .ok (.ifCond .lt 36, 3) := by decide +kernel
theorem dX1_isDark_4 : decode cX1_isDark 4 = .ok (.iload_n 1, 1) := by decide +kernel
theorem dX1_isDark_5 : decode cX1_isDark 5 = .ok (.bipush 16, 2) := by decide +kernel
theorem dX1_isDark_7 : decode cX1_isDark 7 = .ok (.if_icmp .ge 30, 3) := by decide +kernel
theorem dX1_isDark_10 : decode cX1_isDark 10 = .ok (.iload_n 2, 1) := by decide +kernel
theorem dX1_isDark_11 : decode cX1_isDark 11 = .ok (.ifCond .lt 26, 3) := by decide +kernel
theorem dX1_isDark_14 : decode cX1_isDark 14 = .ok (.iload_n 2, 1) := by decide +kernel
theorem dX1_isDark_15 : decode cX1_isDark 15 = .ok (.bipush 16, 2) := by decide +kernel
theorem dX1_isDark_17 : decode cX1_isDark 17 = .ok (.if_icmp .ge 20, 3) := by decide +kernel
theorem dX1_isDark_20 : decode cX1_isDark 20 = .ok (.aload_n 0, 1) := by decide +kernel
theorem dX1_isDark_21 : decode cX1_isDark 21 = .ok (.getfield 9, 3) := by decide +kernel
theorem dX1_isDark_24 : decode cX1_isDark 24 = .ok (.iload_n 2, 1) := by decide +kernel
theorem dX1_isDark_25 : decode cX1_isDark 25 = .ok (.iaload, 1) := by decide +kernel
theorem dX1_isDark_26 : decode cX1_isDark 26 = .ok (.iload_n 1, 1) := by decide +kernel
theorem dX1_isDark_27 : decode cX1_isDark 27 = .ok (.iushr, 1) := by decide +kernel
theorem dX1_isDark_28 : decode cX1_isDark 28 = .ok (.iconst 1, 1) := by decide +kernel
theorem dX1_isDark_29 : decode cX1_isDark 29 = .ok (.iand, 1) := by decide +kernel
theorem dX1_isDark_30 : decode cX1_isDark 30 = .ok (.ifCond .eq 7, 3) := by decide +kernel
theorem dX1_isDark_33 : decode cX1_isDark 33 = .ok (.iconst 1, 1) := by decide +kernel
theorem dX1_isDark_34 : decode cX1_isDark 34 = .ok (.goto 4, 3) := by decide +kernel
theorem dX1_isDark_37 : decode cX1_isDark 37 = .ok (.iconst 0, 1) := by decide +kernel
theorem dX1_isDark_38 : decode cX1_isDark 38 = .ok (.ireturn, 1) := by decide +kernel
set_option maxRecDepth 20000 in
theorem ggX1_flip_X1_row : GoodIn wsX1_flip wsX1_row := goodIn_r _ [5, 6, 15] (by decide +kernel) (by decide +kernel)
set_option maxRecDepth 20000 in
theorem gX1_flip_X1_row : GoodIn wsX1_flip (wsV RX1 20 RX1 yX1_row wsX1_row) := goodIn_app (goodIn_of _ (by decide +kernel)) ggX1_flip_X1_row
set_option maxRecDepth 20000 in
theorem ggX1_flip_X1_setRow : GoodIn wsX1_flip wsX1_setRow := goodIn_r _ [10, 6, 11, 12, 13, 14, 15] (by decide +kernel) (by decide +kernel)
set_option maxRecDepth 20000 in
theorem gX1_flip_X1_setRow : GoodIn wsX1_flip (wsV RX1 24 RX1 yX1_setRow wsX1_setRow) := goodIn_app (goodIn_of _ (by decide +kernel)) ggX1_flip_X1_setRow
theorem dX1_flip_0 : decode cX1_flip 0 = .ok (.aload_n 0, 1) := by decide +kernel
theorem dX1_flip_1 : decode cX1_flip 1 = .ok (.iload_n 2, 1) := by decide +kernel
theorem dX1_flip_2 : decode cX1_flip 2 = .ok (.aload_n 0, 1) := by decide +kernel
theorem dX1_flip_3 : decode cX1_flip 3 = .ok (.iload_n 2, 1) := by decide +kernel
theorem dX1_flip_4 : decode cX1_flip 4 = .ok (.invokevirtual 20, 3) := by decide +kernel
theorem dX1_flip_7 : decode cX1_flip 7 = .ok (.iconst 1, 1) := by decide +kernel
theorem dX1_flip_8 : decode cX1_flip 8 = .ok (.iload_n 1, 1) := by decide +kernel
theorem dX1_flip_9 : decode cX1_flip 9 = .ok (.ishl, 1) := by decide +kernel
theorem dX1_flip_10 : decode cX1_flip 10 = .ok (.ixor, 1) := by decide +kernel
theorem dX1_flip_11 : decode cX1_flip 11 = .ok (.invokevirtual 24, 3) := by decide +kernel
theorem dX1_flip_14 : decode cX1_flip 14 = .ok (.return_, 1) := by decide +kernel
set_option maxRecDepth 20000 in
theorem ggX1_paint_X1_row : GoodIn wsX1_paint wsX1_row := goodIn_r _ [5, 6, 15] (by decide +kernel) (by decide +kernel)
set_option maxRecDepth 20000 in
theorem gX1_paint_X1_row : GoodIn wsX1_paint (wsV RX1 20 RX1 yX1_row wsX1_row) := goodIn_app (goodIn_of _ (by decide +kernel)) ggX1_paint_X1_row
set_option maxRecDepth 20000 in
theorem ggX1_paint_X1_setRow : GoodIn wsX1_paint wsX1_setRow := goodIn_r _ [10, 6, 11, 12, 13, 14, 15] (by decide +kernel) (by decide +kernel)
set_option maxRecDepth 20000 in
theorem gX1_paint_X1_setRow : GoodIn wsX1_paint (wsV RX1 24 RX1 yX1_setRow wsX1_setRow) := goodIn_app (goodIn_of _ (by decide +kernel)) ggX1_paint_X1_setRow
theorem dX1_paint_0 : decode cX1_paint 0 = .ok (.iconst 1, 1) := by decide +kernel
theorem dX1_paint_1 : decode cX1_paint 1 = .ok (.iload_n 3, 1) := by decide +kernel
theorem dX1_paint_2 : decode cX1_paint 2 = .ok (.ishl, 1) := by decide +kernel
theorem dX1_paint_3 : decode cX1_paint 3 = .ok (.iconst 1, 1) := by decide +kernel
theorem dX1_paint_4 : decode cX1_paint 4 = .ok (.isub, 1) := by decide +kernel
theorem dX1_paint_5 : decode cX1_paint 5 = .ok (.iload_n 1, 1) := by decide +kernel
theorem dX1_paint_6 : decode cX1_paint 6 = .ok (.ishl, 1) := by decide +kernel
theorem dX1_paint_7 : decode cX1_paint 7 = .ok (.istore 6, 2) := by decide +kernel
theorem dX1_paint_9 : decode cX1_paint 9 = .ok (.iload_n 2, 1) := by decide +kernel
theorem dX1_paint_10 : decode cX1_paint 10 = .ok (.istore 7, 2) := by decide +kernel
theorem dX1_paint_12 : decode cX1_paint 12 = .ok (.iload 7, 2) := by decide +kernel
theorem dX1_paint_14 : decode cX1_paint 14 = .ok (.iload_n 2, 1) := by decide +kernel
theorem dX1_paint_15 : decode cX1_paint 15 = .ok (.iload 4, 2) := by decide +kernel
theorem dX1_paint_17 : decode cX1_paint 17 = .ok (.iadd, 1) := by decide +kernel
theorem dX1_paint_18 : decode cX1_paint 18 = .ok (.if_icmp .ge 51, 3) := by decide +kernel
theorem dX1_paint_21 : decode cX1_paint 21 = .ok (.iload 7, 2) := by decide +kernel
theorem dX1_paint_23 : decode cX1_paint 23 = .ok (.bipush 16, 2) := by decide +kernel
theorem dX1_paint_25 : decode cX1_paint 25 = .ok (.if_icmp .ge 44, 3) := by decide +kernel
theorem dX1_paint_28 : decode cX1_paint 28 = .ok (.aload_n 0, 1) := by decide +kernel
theorem dX1_paint_29 : decode cX1_paint 29 = .ok (.iload 7, 2) := by decide +kernel
theorem dX1_paint_31 : decode cX1_paint 31 = .ok (.iload 5, 2) := by decide +kernel
theorem dX1_paint_33 : decode cX1_paint 33 = .ok (.iconst 1, 1) := by decide +kernel
theorem dX1_paint_34 : decode cX1_paint 34 = .ok (.if_icmp .ne 15, 3) := by decide +kernel
theorem dX1_paint_37 : decode cX1_paint 37 = .ok (.aload_n 0, 1) := by decide +kernel
theorem dX1_paint_38 : decode cX1_paint 38 = .ok (.iload 7, 2) := by decide +kernel
theorem dX1_paint_40 : decode cX1_paint 40 = .ok (.invokevirtual 20, 3) := by decide +kernel
theorem dX1_paint_43 : decode cX1_paint 43 = .ok (.iload 6, 2) := by decide +kernel
theorem dX1_paint_45 : decode cX1_paint 45 = .ok (.ior, 1) := by decide +kernel
theorem dX1_paint_46 : decode cX1_paint 46 = .ok (.goto 14, 3) := by decide +kernel
theorem dX1_paint_49 : decode cX1_paint 49 = .ok (.aload_n 0, 1) := by decide +kernel
theorem dX1_paint_50 : decode cX1_paint 50 = .ok (.iload 7, 2) := by decide +kernel
theorem dX1_paint_52 : decode cX1_paint 52 = .ok (.invokevirtual 20, 3) := by decide +kernel
theorem dX1_paint_55 : decode cX1_paint 55 = .ok (.iload 6, 2) := by decide +kernel
theorem dX1_paint_57 : decode cX1_paint 57 = .ok (.iconst (-1), 1) := by decide +kernel
theorem dX1_paint_58 : decode cX1_paint 58 = .ok (.ixor, 1) := by decide +kernel
theorem dX1_paint_59 : decode cX1_paint 59 = .ok (.iand, 1) := by decide +kernel
theorem dX1_paint_60 : decode cX1_paint 60 = .ok (.invokevirtual 24, 3) := by decide +kernel
theorem dX1_paint_63 : decode cX1_paint 63 = .ok (.iinc 7 1, 3) := by decide +kernel
theorem dX1_paint_66 : decode cX1_paint 66 = .ok (.goto (-54), 3) := by decide +kernel
theorem dX1_paint_69 : decode cX1_paint 69 = .ok (.return_, 1) := by decide +kernel
theorem dX1_take_0 : decode cX1_take 0 = .ok (.iconst 0, 1) := by decide +kernel
theorem dX1_take_1 : decode cX1_take 1 = .ok (.istore_n 2, 1) := by decide +kernel
theorem dX1_take_2 : decode cX1_take 2 = .ok (.iload_n 2, 1) := by decide +kernel
theorem dX1_take_3 : decode cX1_take 3 = .ok (.bipush 16, 2) := by decide +kernel
theorem dX1_take_5 : decode cX1_take 5 = .ok (.if_icmp .ge 21, 3) := by decide +kernel
theorem dX1_take_8 : decode cX1_take 8 = .ok (.aload_n 0, 1) := by decide +kernel
theorem dX1_take_9 : decode cX1_take 9 = .ok (.getfield 9, 3) := by decide +kernel
theorem dX1_take_12 : decode cX1_take 12 = .ok (.iload_n 2, 1) := by decide +kernel
theorem dX1_take_13 : decode cX1_take 13 = .ok (.aload_n 1, 1) := by decide +kernel
theorem dX1_take_14 : decode cX1_take 14 = .ok (.getfield 9, 3) := by decide +kernel
theorem dX1_take_17 : decode cX1_take 17 = .ok (.iload_n 2, 1) := by decide +kernel
theorem dX1_take_18 : decode cX1_take 18 = .ok (.iaload, 1) := by decide +kernel
theorem dX1_take_19 : decode cX1_take 19 = .ok (.iastore, 1) := by decide +kernel
theorem dX1_take_20 : decode cX1_take 20 = .ok (.iinc 2 1, 3) := by decide +kernel
theorem dX1_take_23 : decode cX1_take 23 = .ok (.goto (-21), 3) := by decide +kernel
theorem dX1_take_26 : decode cX1_take 26 = .ok (.return_, 1) := by decide +kernel
theorem dX1_takeTurnedOver_0 : decode cX1_takeTurnedOver 0 = .ok (.iconst 0, 1) := by decide +kernel
theorem dX1_takeTurnedOver_1 : decode cX1_takeTurnedOver 1 = .ok (.istore_n 2, 1) := by decide +kernel
theorem dX1_takeTurnedOver_2 : decode cX1_takeTurnedOver 2 = .ok (.iload_n 2, 1) := by decide +kernel
theorem dX1_takeTurnedOver_3 : decode cX1_takeTurnedOver 3 = .ok (.bipush 16, 2) := by decide +kernel
theorem dX1_takeTurnedOver_5 : decode cX1_takeTurnedOver 5 = .ok (.if_icmp .ge 24, 3) := by decide +kernel
theorem dX1_takeTurnedOver_8 : decode cX1_takeTurnedOver 8 = .ok (.aload_n 0, 1) := by decide +kernel
theorem dX1_takeTurnedOver_9 : decode cX1_takeTurnedOver 9 = .ok (.getfield 9, 3) := by decide +kernel
theorem dX1_takeTurnedOver_12 : decode cX1_takeTurnedOver 12 = .ok (.iload_n 2, 1) := by decide +kernel
theorem dX1_takeTurnedOver_13 : decode cX1_takeTurnedOver 13 = .ok (.aload_n 1, 1) := by decide +kernel
theorem dX1_takeTurnedOver_14 : decode cX1_takeTurnedOver 14 = .ok (.getfield 9, 3) := by decide +kernel
theorem dX1_takeTurnedOver_17 : decode cX1_takeTurnedOver 17 = .ok (.iload_n 2, 1) := by decide +kernel
theorem dX1_takeTurnedOver_18 : decode cX1_takeTurnedOver 18 = .ok (.iaload, 1) := by decide +kernel
theorem dX1_takeTurnedOver_19 : decode cX1_takeTurnedOver 19 = .ok (.ldc 19, 2) := by decide +kernel
theorem dX1_takeTurnedOver_21 : decode cX1_takeTurnedOver 21 = .ok (.ixor, 1) := by decide +kernel
theorem dX1_takeTurnedOver_22 : decode cX1_takeTurnedOver 22 = .ok (.iastore, 1) := by decide +kernel
theorem dX1_takeTurnedOver_23 : decode cX1_takeTurnedOver 23 = .ok (.iinc 2 1, 3) := by decide +kernel
theorem dX1_takeTurnedOver_26 : decode cX1_takeTurnedOver 26 = .ok (.goto (-24), 3) := by decide +kernel
theorem dX1_takeTurnedOver_29 : decode cX1_takeTurnedOver 29 = .ok (.return_, 1) := by decide +kernel
set_option maxRecDepth 20000 in
theorem ggX1_takeTurnedRight_X1_isDark : GoodIn wsX1_takeTurnedRight wsX1_isDark := goodIn_r _ [6, 1, 7] (by decide +kernel) (by decide +kernel)
set_option maxRecDepth 20000 in
theorem gX1_takeTurnedRight_X1_isDark : GoodIn wsX1_takeTurnedRight (wsV RX1 28 RX1 yX1_isDark wsX1_isDark) := goodIn_app (goodIn_of _ (by decide +kernel)) ggX1_takeTurnedRight_X1_isDark
theorem dX1_takeTurnedRight_0 : decode cX1_takeTurnedRight 0 = .ok (.iconst 0, 1) := by decide +kernel
theorem dX1_takeTurnedRight_1 : decode cX1_takeTurnedRight 1 = .ok (.istore_n 2, 1) := by decide +kernel
theorem dX1_takeTurnedRight_2 : decode cX1_takeTurnedRight 2 = .ok (.iload_n 2, 1) := by decide +kernel
theorem dX1_takeTurnedRight_3 : decode cX1_takeTurnedRight 3 = .ok (.bipush 16, 2) := by decide +kernel
theorem dX1_takeTurnedRight_5 : decode cX1_takeTurnedRight 5 = .ok (.if_icmp .ge 54, 3) := by decide +kernel
theorem dX1_takeTurnedRight_8 : decode cX1_takeTurnedRight 8 = .ok (.iconst 0, 1) := by decide +kernel
theorem dX1_takeTurnedRight_9 : decode cX1_takeTurnedRight 9 = .ok (.istore_n 3, 1) := by decide +kernel
theorem dX1_takeTurnedRight_10 : decode cX1_takeTurnedRight 10 = .ok (.iconst 0, 1) := by decide +kernel
theorem dX1_takeTurnedRight_11 : decode cX1_takeTurnedRight 11 = .ok (.istore 4, 2) := by decide +kernel
theorem dX1_takeTurnedRight_13 : decode cX1_takeTurnedRight 13 = .ok (.iload 4, 2) := by decide +kernel
theorem dX1_takeTurnedRight_15 : decode cX1_takeTurnedRight 15 = .ok (.bipush 16, 2) := by decide +kernel
theorem dX1_takeTurnedRight_17 : decode cX1_takeTurnedRight 17 = .ok (.if_icmp .ge 29, 3) := by decide +kernel
theorem dX1_takeTurnedRight_20 : decode cX1_takeTurnedRight 20 = .ok (.aload_n 1, 1) := by decide +kernel
theorem dX1_takeTurnedRight_21 : decode cX1_takeTurnedRight 21 = .ok (.iload_n 2, 1) := by decide +kernel
theorem dX1_takeTurnedRight_22 : decode cX1_takeTurnedRight 22 = .ok (.bipush 15, 2) := by decide +kernel
theorem dX1_takeTurnedRight_24 : decode cX1_takeTurnedRight 24 = .ok (.iload 4, 2) := by decide +kernel
theorem dX1_takeTurnedRight_26 : decode cX1_takeTurnedRight 26 = .ok (.isub, 1) := by decide +kernel
theorem dX1_takeTurnedRight_27 : decode cX1_takeTurnedRight 27 = .ok (.invokevirtual 28, 3) := by decide +kernel
theorem dX1_takeTurnedRight_30 : decode cX1_takeTurnedRight 30 = .ok (.ifCond .eq 10, 3) := by decide +kernel
theorem dX1_takeTurnedRight_33 : decode cX1_takeTurnedRight 33 = .ok (.iload_n 3, 1) := by decide +kernel
theorem dX1_takeTurnedRight_34 : decode cX1_takeTurnedRight 34 = .ok (.iconst 1, 1) := by decide +kernel
theorem dX1_takeTurnedRight_35 : decode cX1_takeTurnedRight 35 = .ok (.iload 4, 2) := by decide +kernel
theorem dX1_takeTurnedRight_37 : decode cX1_takeTurnedRight 37 = .ok (.ishl, 1) := by decide +kernel
theorem dX1_takeTurnedRight_38 : decode cX1_takeTurnedRight 38 = .ok (.ior, 1) := by decide +kernel
theorem dX1_takeTurnedRight_39 : decode cX1_takeTurnedRight 39 = .ok (.istore_n 3, 1) := by decide +kernel
theorem dX1_takeTurnedRight_40 : decode cX1_takeTurnedRight 40 = .ok (.iinc 4 1, 3) := by decide +kernel
theorem dX1_takeTurnedRight_43 : decode cX1_takeTurnedRight 43 = .ok (.goto (-30), 3) := by decide +kernel
theorem dX1_takeTurnedRight_46 : decode cX1_takeTurnedRight 46 = .ok (.aload_n 0, 1) := by decide +kernel
theorem dX1_takeTurnedRight_47 : decode cX1_takeTurnedRight 47 = .ok (.getfield 9, 3) := by decide +kernel
theorem dX1_takeTurnedRight_50 : decode cX1_takeTurnedRight 50 = .ok (.iload_n 2, 1) := by decide +kernel
theorem dX1_takeTurnedRight_51 : decode cX1_takeTurnedRight 51 = .ok (.iload_n 3, 1) := by decide +kernel
theorem dX1_takeTurnedRight_52 : decode cX1_takeTurnedRight 52 = .ok (.iastore, 1) := by decide +kernel
theorem dX1_takeTurnedRight_53 : decode cX1_takeTurnedRight 53 = .ok (.iinc 2 1, 3) := by decide +kernel
theorem dX1_takeTurnedRight_56 : decode cX1_takeTurnedRight 56 = .ok (.goto (-54), 3) := by decide +kernel
theorem dX1_takeTurnedRight_59 : decode cX1_takeTurnedRight 59 = .ok (.return_, 1) := by decide +kernel
set_option maxRecDepth 20000 in
theorem ggX1_takeWidened_X1_neighboursInRow : GoodIn wsX1_takeWidened wsX1_neighboursInRow := goodIn_r _ [6, 7, 8, 9, 10, 5, 11, 1, 12] (by decide +kernel) (by decide +kernel)
set_option maxRecDepth 20000 in
theorem gX1_takeWidened_X1_neighboursInRow : GoodIn wsX1_takeWidened (wsV RX1 31 RX1 yX1_neighboursInRow wsX1_neighboursInRow) := goodIn_app (goodIn_of _ (by decide +kernel)) ggX1_takeWidened_X1_neighboursInRow
theorem dX1_takeWidened_0 : decode cX1_takeWidened 0 = .ok (.iconst 0, 1) := by decide +kernel
theorem dX1_takeWidened_1 : decode cX1_takeWidened 1 = .ok (.istore_n 2, 1) := by decide +kernel
theorem dX1_takeWidened_2 : decode cX1_takeWidened 2 = .ok (.iload_n 2, 1) := by decide +kernel
theorem dX1_takeWidened_3 : decode cX1_takeWidened 3 = .ok (.bipush 16, 2) := by decide +kernel
theorem dX1_takeWidened_5 : decode cX1_takeWidened 5 = .ok (.if_icmp .ge 27, 3) := by decide +kernel
theorem dX1_takeWidened_8 : decode cX1_takeWidened 8 = .ok (.aload_n 0, 1) := by decide +kernel
theorem dX1_takeWidened_9 : decode cX1_takeWidened 9 = .ok (.getfield 9, 3) := by decide +kernel
theorem dX1_takeWidened_12 : decode cX1_takeWidened 12 = .ok (.iload_n 2, 1) := by decide +kernel
theorem dX1_takeWidened_13 : decode cX1_takeWidened 13 = .ok (.aload_n 1, 1) := by decide +kernel
theorem dX1_takeWidened_14 : decode cX1_takeWidened 14 = .ok (.getfield 9, 3) := by decide +kernel
theorem dX1_takeWidened_17 : decode cX1_takeWidened 17 = .ok (.iload_n 2, 1) := by decide +kernel
theorem dX1_takeWidened_18 : decode cX1_takeWidened 18 = .ok (.iaload, 1) := by decide +kernel
theorem dX1_takeWidened_19 : decode cX1_takeWidened 19 = .ok (.aload_n 1, 1) := by decide +kernel
theorem dX1_takeWidened_20 : decode cX1_takeWidened 20 = .ok (.iload_n 2, 1) := by decide +kernel
theorem dX1_takeWidened_21 : decode cX1_takeWidened 21 = .ok (.invokevirtual 31, 3) := by decide +kernel
theorem dX1_takeWidened_24 : decode cX1_takeWidened 24 = .ok (.ior, 1) := by decide +kernel
theorem dX1_takeWidened_25 : decode cX1_takeWidened 25 = .ok (.iastore, 1) := by decide +kernel
theorem dX1_takeWidened_26 : decode cX1_takeWidened 26 = .ok (.iinc 2 1, 3) := by decide +kernel
theorem dX1_takeWidened_29 : decode cX1_takeWidened 29 = .ok (.goto (-27), 3) := by decide +kernel
theorem dX1_takeWidened_32 : decode cX1_takeWidened 32 = .ok (.return_, 1) := by decide +kernel
set_option maxRecDepth 20000 in
theorem ggX1_neighboursInRow_X1_row : GoodIn wsX1_neighboursInRow wsX1_row := goodIn_r _ [6, 7, 8] (by decide +kernel) (by decide +kernel)
set_option maxRecDepth 20000 in
theorem gX1_neighboursInRow_X1_row : GoodIn wsX1_neighboursInRow (wsV RX1 20 RX1 yX1_row wsX1_row) := goodIn_app (goodIn_of _ (by decide +kernel)) ggX1_neighboursInRow_X1_row
theorem dX1_neighboursInRow_0 : decode cX1_neighboursInRow 0 = .ok (.aload_n 0, 1) := by decide +kernel
theorem dX1_neighboursInRow_1 : decode cX1_neighboursInRow 1 = .ok (.iload_n 1, 1) := by decide +kernel
theorem dX1_neighboursInRow_2 : decode cX1_neighboursInRow 2 = .ok (.invokevirtual 20, 3) := by decide +kernel
theorem dX1_neighboursInRow_5 : decode cX1_neighboursInRow 5 = .ok (.iconst 1, 1) := by decide +kernel
theorem dX1_neighboursInRow_6 : decode cX1_neighboursInRow 6 = .ok (.ishl, 1) := by decide +kernel
theorem dX1_neighboursInRow_7 : decode cX1_neighboursInRow 7 = .ok (.aload_n 0, 1) := by decide +kernel
theorem dX1_neighboursInRow_8 : decode cX1_neighboursInRow 8 = .ok (.iload_n 1, 1) := by decide +kernel
theorem dX1_neighboursInRow_9 : decode cX1_neighboursInRow 9 = .ok (.invokevirtual 20, 3) := by decide +kernel
theorem dX1_neighboursInRow_12 : decode cX1_neighboursInRow 12 = .ok (.iconst 1, 1) := by decide +kernel
theorem dX1_neighboursInRow_13 : decode cX1_neighboursInRow 13 = .ok (.iushr, 1) := by decide +kernel
theorem dX1_neighboursInRow_14 : decode cX1_neighboursInRow 14 = .ok (.ior, 1) := by decide +kernel
theorem dX1_neighboursInRow_15 : decode cX1_neighboursInRow 15 = .ok (.aload_n 0, 1) := by decide +kernel
theorem dX1_neighboursInRow_16 : decode cX1_neighboursInRow 16 = .ok (.iload_n 1, 1) := by decide +kernel
theorem dX1_neighboursInRow_17 : decode cX1_neighboursInRow 17 = .ok (.iconst 1, 1) := by decide +kernel
theorem dX1_neighboursInRow_18 : decode cX1_neighboursInRow 18 = .ok (.isub, 1) := by decide +kernel
theorem dX1_neighboursInRow_19 : decode cX1_neighboursInRow 19 = .ok (.invokevirtual 20, 3) := by decide +kernel
theorem dX1_neighboursInRow_22 : decode cX1_neighboursInRow 22 = .ok (.ior, 1) := by decide +kernel
theorem dX1_neighboursInRow_23 : decode cX1_neighboursInRow 23 = .ok (.aload_n 0, 1) := by decide +kernel
theorem dX1_neighboursInRow_24 : decode cX1_neighboursInRow 24 = .ok (.iload_n 1, 1) := by decide +kernel
theorem dX1_neighboursInRow_25 : decode cX1_neighboursInRow 25 = .ok (.iconst 1, 1) := by decide +kernel
theorem dX1_neighboursInRow_26 : decode cX1_neighboursInRow 26 = .ok (.iadd, 1) := by decide +kernel
theorem dX1_neighboursInRow_27 : decode cX1_neighboursInRow 27 = .ok (.invokevirtual 20, 3) := by decide +kernel
theorem dX1_neighboursInRow_30 : decode cX1_neighboursInRow 30 = .ok (.ior, 1) := by decide +kernel
theorem dX1_neighboursInRow_31 : decode cX1_neighboursInRow 31 = .ok (.ldc 19, 2) := by decide +kernel
theorem dX1_neighboursInRow_33 : decode cX1_neighboursInRow 33 = .ok (.iand, 1) := by decide +kernel
theorem dX1_neighboursInRow_34 : decode cX1_neighboursInRow 34 = .ok (.ireturn, 1) := by decide +kernel
set_option maxRecDepth 20000 in
theorem ggX1_darkCells_J6_bitCount_0f7a4 : GoodIn wsX1_darkCells wsJ6_bitCount_0f7a4 := goodIn_r _ [5, 6, 7, 8] (by decide +kernel) (by decide +kernel)
set_option maxRecDepth 20000 in
theorem gX1_darkCells_J6_bitCount_0f7a4 : GoodIn wsX1_darkCells (va_wsS RX1 34 yJ6_bitCount_0f7a4 wsJ6_bitCount_0f7a4) := goodIn_app (goodIn_of _ (by decide +kernel)) ggX1_darkCells_J6_bitCount_0f7a4
theorem dX1_darkCells_0 : decode cX1_darkCells 0 = .ok (.iconst 0, 1) := by decide +kernel
theorem dX1_darkCells_1 : decode cX1_darkCells 1 = .ok (.istore_n 1, 1) := by decide +kernel
theorem dX1_darkCells_2 : decode cX1_darkCells 2 = .ok (.iconst 0, 1) := by decide +kernel
theorem dX1_darkCells_3 : decode cX1_darkCells 3 = .ok (.istore_n 2, 1) := by decide +kernel
theorem dX1_darkCells_4 : decode cX1_darkCells 4 = .ok (.iload_n 2, 1) := by decide +kernel
theorem dX1_darkCells_5 : decode cX1_darkCells 5 = .ok (.bipush 16, 2) := by decide +kernel
theorem dX1_darkCells_7 : decode cX1_darkCells 7 = .ok (.if_icmp .ge 21, 3) := by decide +kernel
theorem dX1_darkCells_10 : decode cX1_darkCells 10 = .ok (.iload_n 1, 1) := by decide +kernel
theorem dX1_darkCells_11 : decode cX1_darkCells 11 = .ok (.aload_n 0, 1) := by decide +kernel
theorem dX1_darkCells_12 : decode cX1_darkCells 12 = .ok (.getfield 9, 3) := by decide +kernel
theorem dX1_darkCells_15 : decode cX1_darkCells 15 = .ok (.iload_n 2, 1) := by decide +kernel
theorem dX1_darkCells_16 : decode cX1_darkCells 16 = .ok (.iaload, 1) := by decide +kernel
theorem dX1_darkCells_17 : decode cX1_darkCells 17 = .ok (.invokestatic 34, 3) := by decide +kernel
theorem dX1_darkCells_20 : decode cX1_darkCells 20 = .ok (.iadd, 1) := by decide +kernel
theorem dX1_darkCells_21 : decode cX1_darkCells 21 = .ok (.istore_n 1, 1) := by decide +kernel
theorem dX1_darkCells_22 : decode cX1_darkCells 22 = .ok (.iinc 2 1, 3) := by decide +kernel
theorem dX1_darkCells_25 : decode cX1_darkCells 25 = .ok (.goto (-21), 3) := by decide +kernel
theorem dX1_darkCells_28 : decode cX1_darkCells 28 = .ok (.iload_n 1, 1) := by decide +kernel
theorem dX1_darkCells_29 : decode cX1_darkCells 29 = .ok (.ireturn, 1) := by decide +kernel
set_option maxRecDepth 20000 in
theorem ggX1_darkCellsIn_J6_bitCount_0f7a4 : GoodIn wsX1_darkCellsIn wsJ6_bitCount_0f7a4 := goodIn_r _ [5, 6, 7, 8] (by decide +kernel) (by decide +kernel)
set_option maxRecDepth 20000 in
theorem gX1_darkCellsIn_J6_bitCount_0f7a4 : GoodIn wsX1_darkCellsIn (va_wsS RX1 34 yJ6_bitCount_0f7a4 wsJ6_bitCount_0f7a4) := goodIn_app (goodIn_of _ (by decide +kernel)) ggX1_darkCellsIn_J6_bitCount_0f7a4
theorem dX1_darkCellsIn_0 : decode cX1_darkCellsIn 0 = .ok (.iconst 0, 1) := by decide +kernel
theorem dX1_darkCellsIn_1 : decode cX1_darkCellsIn 1 = .ok (.istore_n 2, 1) := by decide +kernel
theorem dX1_darkCellsIn_2 : decode cX1_darkCellsIn 2 = .ok (.iconst 0, 1) := by decide +kernel
theorem dX1_darkCellsIn_3 : decode cX1_darkCellsIn 3 = .ok (.istore_n 3, 1) := by decide +kernel
theorem dX1_darkCellsIn_4 : decode cX1_darkCellsIn 4 = .ok (.iload_n 3, 1) := by decide +kernel
theorem dX1_darkCellsIn_5 : decode cX1_darkCellsIn 5 = .ok (.bipush 16, 2) := by decide +kernel
theorem dX1_darkCellsIn_7 : decode cX1_darkCellsIn 7 = .ok (.if_icmp .ge 28, 3) := by decide +kernel
theorem dX1_darkCellsIn_10 : decode cX1_darkCellsIn 10 = .ok (.iload_n 2, 1) := by decide +kernel
theorem dX1_darkCellsIn_11 : decode cX1_darkCellsIn 11 = .ok (.aload_n 0, 1) := by decide +kernel
theorem dX1_darkCellsIn_12 : decode cX1_darkCellsIn 12 = .ok (.getfield 9, 3) := by decide +kernel
theorem dX1_darkCellsIn_15 : decode cX1_darkCellsIn 15 = .ok (.iload_n 3, 1) := by decide +kernel
theorem dX1_darkCellsIn_16 : decode cX1_darkCellsIn 16 = .ok (.iaload, 1) := by decide +kernel
theorem dX1_darkCellsIn_17 : decode cX1_darkCellsIn 17 = .ok (.aload_n 1, 1) := by decide +kernel
theorem dX1_darkCellsIn_18 : decode cX1_darkCellsIn 18 = .ok (.getfield 9, 3) := by decide +kernel
theorem dX1_darkCellsIn_21 : decode cX1_darkCellsIn 21 = .ok (.iload_n 3, 1) := by decide +kernel
theorem dX1_darkCellsIn_22 : decode cX1_darkCellsIn 22 = .ok (.iaload, 1) := by decide +kernel
theorem dX1_darkCellsIn_23 : decode cX1_darkCellsIn 23 = .ok (.iand, 1) := by decide +kernel
theorem dX1_darkCellsIn_24 : decode cX1_darkCellsIn 24 = .ok (.invokestatic 34, 3) := by decide +kernel
theorem dX1_darkCellsIn_27 : decode cX1_darkCellsIn 27 = .ok (.iadd, 1) := by decide +kernel
theorem dX1_darkCellsIn_28 : decode cX1_darkCellsIn 28 = .ok (.istore_n 2, 1) := by decide +kernel
theorem dX1_darkCellsIn_29 : decode cX1_darkCellsIn 29 = .ok (.iinc 3 1, 3) := by decide +kernel
theorem dX1_darkCellsIn_32 : decode cX1_darkCellsIn 32 = .ok (.goto (-28), 3) := by decide +kernel
theorem dX1_darkCellsIn_35 : decode cX1_darkCellsIn 35 = .ok (.iload_n 2, 1) := by decide +kernel
theorem dX1_darkCellsIn_36 : decode cX1_darkCellsIn 36 = .ok (.ireturn, 1) := by decide +kernel
theorem dX1_sameAs_0 : decode cX1_sameAs 0 = .ok (.iconst 0, 1) := by decide +kernel
theorem dX1_sameAs_1 : decode cX1_sameAs 1 = .ok (.istore_n 2, 1) := by decide +kernel
theorem dX1_sameAs_2 : decode cX1_sameAs 2 = .ok (.iload_n 2, 1) := by decide +kernel
theorem dX1_sameAs_3 : decode cX1_sameAs 3 = .ok (.bipush 16, 2) := by decide +kernel
theorem dX1_sameAs_5 : decode cX1_sameAs 5 = .ok (.if_icmp .ge 26, 3) := by decide +kernel
theorem dX1_sameAs_8 : decode cX1_sameAs 8 = .ok (.aload_n 0, 1) := by decide +kernel
theorem dX1_sameAs_9 : decode cX1_sameAs 9 = .ok (.getfield 9, 3) := by decide +kernel
theorem dX1_sameAs_12 : decode cX1_sameAs 12 = .ok (.iload_n 2, 1) := by decide +kernel
theorem dX1_sameAs_13 : decode cX1_sameAs 13 = .ok (.iaload, 1) := by decide +kernel
theorem dX1_sameAs_14 : decode cX1_sameAs 14 = .ok (.aload_n 1, 1) := by decide +kernel
theorem dX1_sameAs_15 : decode cX1_sameAs 15 = .ok (.getfield 9, 3) := by decide +kernel
theorem dX1_sameAs_18 : decode cX1_sameAs 18 = .ok (.iload_n 2, 1) := by decide +kernel
theorem dX1_sameAs_19 : decode cX1_sameAs 19 = .ok (.iaload, 1) := by decide +kernel
theorem dX1_sameAs_20 : decode cX1_sameAs 20 = .ok (.if_icmp .eq 5, 3) := by decide +kernel
theorem dX1_sameAs_23 : decode cX1_sameAs 23 = .ok (.iconst 0, 1) := by decide +kernel
theorem dX1_sameAs_24 : decode cX1_sameAs 24 = .ok (.ireturn, 1) := by decide +kernel
theorem dX1_sameAs_25 : decode cX1_sameAs 25 = .ok (.iinc 2 1, 3) := by decide +kernel
theorem dX1_sameAs_28 : decode cX1_sameAs 28 = .ok (.goto (-26), 3) := by decide +kernel
theorem dX1_sameAs_31 : decode cX1_sameAs 31 = .ok (.iconst 1, 1) := by decide +kernel
theorem dX1_sameAs_32 : decode cX1_sameAs 32 = .ok (.ireturn, 1) := by decide +kernel
set_option maxRecDepth 20000 in
theorem ggX1_touches_X1_neighboursInRow : GoodIn wsX1_touches wsX1_neighboursInRow := goodIn_r _ [6, 7, 8, 9, 10, 5, 11, 1, 12] (by decide +kernel) (by decide +kernel)
set_option maxRecDepth 20000 in
theorem gX1_touches_X1_neighboursInRow : GoodIn wsX1_touches (wsV RX1 31 RX1 yX1_neighboursInRow wsX1_neighboursInRow) := goodIn_app (goodIn_of _ (by decide +kernel)) ggX1_touches_X1_neighboursInRow
theorem dX1_touches_0 : decode cX1_touches 0 = .ok (.iconst 0, 1) := by decide +kernel
theorem dX1_touches_1 : decode cX1_touches 1 = .ok (.istore_n 2, 1) := by decide +kernel
theorem dX1_touches_2 : decode cX1_touches 2 = .ok (.iload_n 2, 1) := by decide +kernel
theorem dX1_touches_3 : decode cX1_touches 3 = .ok (.bipush 16, 2) := by decide +kernel
theorem dX1_touches_5 : decode cX1_touches 5 = .ok (.if_icmp .ge 26, 3) := by decide +kernel
theorem dX1_touches_8 : decode cX1_touches 8 = .ok (.aload_n 0, 1) := by decide +kernel
theorem dX1_touches_9 : decode cX1_touches 9 = .ok (.getfield 9, 3) := by decide +kernel
theorem dX1_touches_12 : decode cX1_touches 12 = .ok (.iload_n 2, 1) := by decide +kernel
theorem dX1_touches_13 : decode cX1_touches 13 = .ok (.iaload, 1) := by decide +kernel
theorem dX1_touches_14 : decode cX1_touches 14 = .ok (.aload_n 1, 1) := by decide +kernel
theorem dX1_touches_15 : decode cX1_touches 15 = .ok (.iload_n 2, 1) := by decide +kernel
theorem dX1_touches_16 : decode cX1_touches 16 = .ok (.invokevirtual 31, 3) := by decide +kernel
theorem dX1_touches_19 : decode cX1_touches 19 = .ok (.iand, 1) := by decide +kernel
theorem dX1_touches_20 : decode cX1_touches 20 = .ok (.ifCond .eq 5, 3) := by decide +kernel
theorem dX1_touches_23 : decode cX1_touches 23 = .ok (.iconst 1, 1) := by decide +kernel
theorem dX1_touches_24 : decode cX1_touches 24 = .ok (.ireturn, 1) := by decide +kernel
theorem dX1_touches_25 : decode cX1_touches 25 = .ok (.iinc 2 1, 3) := by decide +kernel
theorem dX1_touches_28 : decode cX1_touches 28 = .ok (.goto (-26), 3) := by decide +kernel
theorem dX1_touches_31 : decode cX1_touches 31 = .ok (.iconst 0, 1) := by decide +kernel
theorem dX1_touches_32 : decode cX1_touches 32 = .ok (.ireturn, 1) := by decide +kernel
set_option maxRecDepth 20000 in
theorem ggX1_border_J6_bitCount_0f7a4 : GoodIn wsX1_border wsJ6_bitCount_0f7a4 := goodIn_r _ [5, 6, 7, 8] (by decide +kernel) (by decide +kernel)
set_option maxRecDepth 20000 in
theorem gX1_border_J6_bitCount_0f7a4 : GoodIn wsX1_border (va_wsS RX1 34 yJ6_bitCount_0f7a4 wsJ6_bitCount_0f7a4) := goodIn_app (goodIn_of _ (by decide +kernel)) ggX1_border_J6_bitCount_0f7a4
set_option maxRecDepth 20000 in
theorem ggX1_border_X1_row : GoodIn wsX1_border wsX1_row := goodIn_r _ [13, 1, 18] (by decide +kernel) (by decide +kernel)
set_option maxRecDepth 20000 in
theorem gX1_border_X1_row : GoodIn wsX1_border (wsV RX1 20 RX1 yX1_row wsX1_row) := goodIn_app (goodIn_of _ (by decide +kernel)) ggX1_border_X1_row
set_option maxRecDepth 20000 in
theorem ggX1_border_X1_darkCells : GoodIn wsX1_border wsX1_darkCells := goodIn_r _ [17, 1, 2, 3, 4, 5, 6, 7, 8, 18] (by decide +kernel) (by decide +kernel)
set_option maxRecDepth 20000 in
theorem gX1_border_X1_darkCells : GoodIn wsX1_border (wsV RX1 39 RX1 yX1_darkCells wsX1_darkCells) := goodIn_app (goodIn_of _ (by decide +kernel)) ggX1_border_X1_darkCells
theorem dX1_border_0 : decode cX1_border 0 = .ok (.iconst 0, 1) := by decide +kernel
theorem dX1_border_1 : decode cX1_border 1 = .ok (.istore_n 1, 1) := by decide +kernel
theorem dX1_border_2 : decode cX1_border 2 = .ok (.iconst 0, 1) := by decide +kernel
theorem dX1_border_3 : decode cX1_border 3 = .ok (.istore_n 2, 1) := by decide +kernel
theorem dX1_border_4 : decode cX1_border 4 = .ok (.iload_n 2, 1) := by decide +kernel
theorem dX1_border_5 : decode cX1_border 5 = .ok (.bipush 16, 2) := by decide +kernel
theorem dX1_border_7 : decode cX1_border 7 = .ok (.if_icmp .ge 50, 3) := by decide +kernel
theorem dX1_border_10 : decode cX1_border 10 = .ok (.iload_n 1, 1) := by decide +kernel
theorem dX1_border_11 : decode cX1_border 11 = .ok (.aload_n 0, 1) := by decide +kernel
theorem dX1_border_12 : decode cX1_border 12 = .ok (.getfield 9, 3) := by decide +kernel
theorem dX1_border_15 : decode cX1_border 15 = .ok (.iload_n 2, 1) := by decide +kernel
theorem dX1_border_16 : decode cX1_border 16 = .ok (.iaload, 1) := by decide +kernel
theorem dX1_border_17 : decode cX1_border 17 = .ok (.aload_n 0, 1) := by decide +kernel
theorem dX1_border_18 : decode cX1_border 18 = .ok (.getfield 9, 3) := by decide +kernel
theorem dX1_border_21 : decode cX1_border 21 = .ok (.iload_n 2, 1) := by decide +kernel
theorem dX1_border_22 : decode cX1_border 22 = .ok (.iaload, 1) := by decide +kernel
theorem dX1_border_23 : decode cX1_border 23 = .ok (.iconst 1, 1) := by decide +kernel
theorem dX1_border_24 : decode cX1_border 24 = .ok (.ishl, 1) := by decide +kernel
theorem dX1_border_25 : decode cX1_border 25 = .ok (.iand, 1) := by decide +kernel
theorem dX1_border_26 : decode cX1_border 26 = .ok (.invokestatic 34, 3) := by decide +kernel
theorem dX1_border_29 : decode cX1_border 29 = .ok (.iadd, 1) := by decide +kernel
theorem dX1_border_30 : decode cX1_border 30 = .ok (.istore_n 1, 1) := by decide +kernel
theorem dX1_border_31 : decode cX1_border 31 = .ok (.iload_n 1, 1) := by decide +kernel
theorem dX1_border_32 : decode cX1_border 32 = .ok (.aload_n 0, 1) := by decide +kernel
theorem dX1_border_33 : decode cX1_border 33 = .ok (.getfield 9, 3) := by decide +kernel
theorem dX1_border_36 : decode cX1_border 36 = .ok (.iload_n 2, 1) := by decide +kernel
theorem dX1_border_37 : decode cX1_border 37 = .ok (.iaload, 1) := by decide +kernel
theorem dX1_border_38 : decode cX1_border 38 = .ok (.aload_n 0, 1) := by decide +kernel
theorem dX1_border_39 : decode cX1_border 39 = .ok (.iload_n 2, 1) := by decide +kernel
theorem dX1_border_40 : decode cX1_border 40 = .ok (.iconst 1, 1) := by decide +kernel
theorem dX1_border_41 : decode cX1_border 41 = .ok (.iadd, 1) := by decide +kernel
theorem dX1_border_42 : decode cX1_border 42 = .ok (.invokevirtual 20, 3) := by decide +kernel
theorem dX1_border_45 : decode cX1_border 45 = .ok (.iand, 1) := by decide +kernel
theorem dX1_border_46 : decode cX1_border 46 = .ok (.invokestatic 34, 3) := by decide +kernel
theorem dX1_border_49 : decode cX1_border 49 = .ok (.iadd, 1) := by decide +kernel
theorem dX1_border_50 : decode cX1_border 50 = .ok (.istore_n 1, 1) := by decide +kernel
theorem dX1_border_51 : decode cX1_border 51 = .ok (.iinc 2 1, 3) := by decide +kernel
theorem dX1_border_54 : decode cX1_border 54 = .ok (.goto (-50), 3) := by decide +kernel
theorem dX1_border_57 : decode cX1_border 57 = .ok (.iconst 4, 1) := by decide +kernel
theorem dX1_border_58 : decode cX1_border 58 = .ok (.aload_n 0, 1) := by decide +kernel
theorem dX1_border_59 : decode cX1_border 59 = .ok (.invokevirtual 39, 3) := by decide +kernel
theorem dX1_border_62 : decode cX1_border 62 = .ok (.imul, 1) := by decide +kernel
theorem dX1_border_63 : decode cX1_border 63 = .ok (.iconst 2, 1) := by decide +kernel
theorem dX1_border_64 : decode cX1_border 64 = .ok (.iload_n 1, 1) := by decide +kernel
theorem dX1_border_65 : decode cX1_border 65 = .ok (.imul, 1) := by decide +kernel
theorem dX1_border_66 : decode cX1_border 66 = .ok (.isub, 1) := by decide +kernel
theorem dX1_border_67 : decode cX1_border 67 = .ok (.ireturn, 1) := by decide +kernel
set_option maxRecDepth 20000 in
theorem ggX1_signOfSquare_X1_row : GoodIn wsX1_signOfSquare wsX1_row := goodIn_r _ [5, 6, 7] (by decide +kernel) (by decide +kernel)
set_option maxRecDepth 20000 in
theorem gX1_signOfSquare_X1_row : GoodIn wsX1_signOfSquare (wsV RX1 20 RX1 yX1_row wsX1_row) := goodIn_app (goodIn_of _ (by decide +kernel)) ggX1_signOfSquare_X1_row
theorem dX1_signOfSquare_0 : decode cX1_signOfSquare 0 = .ok (.iconst 1, 1) := by decide +kernel
theorem dX1_signOfSquare_1 : decode cX1_signOfSquare 1 = .ok (.iload_n 3, 1) := by decide +kernel
theorem dX1_signOfSquare_2 : decode cX1_signOfSquare 2 = .ok (.ishl, 1) := by decide +kernel
theorem dX1_signOfSquare_3 : decode cX1_signOfSquare 3 = .ok (.iconst 1, 1) := by decide +kernel
theorem dX1_signOfSquare_4 : decode cX1_signOfSquare 4 = .ok (.isub, 1) := by decide +kernel
theorem dX1_signOfSquare_5 : decode cX1_signOfSquare 5 = .ok (.iload_n 1, 1) := by decide +kernel
theorem dX1_signOfSquare_6 : decode cX1_signOfSquare 6 = .ok (.ishl, 1) := by decide +kernel
theorem dX1_signOfSquare_7 : decode cX1_signOfSquare 7 = .ok (.istore 4, 2) := by decide +kernel
theorem dX1_signOfSquare_9 : decode cX1_signOfSquare 9 = .ok (.aload_n 0, 1) := by decide +kernel
theorem dX1_signOfSquare_10 : decode cX1_signOfSquare 10 = .ok (.iload_n 2, 1) := by decide +kernel
theorem dX1_signOfSquare_11 : decode cX1_signOfSquare 11 = .ok (.invokevirtual 20, 3) := by decide +kernel
theorem dX1_signOfSquare_14 : decode cX1_signOfSquare 14 = .ok (.iload 4, 2) := by decide +kernel
theorem dX1_signOfSquare_16 : decode cX1_signOfSquare 16 = .ok (.iand, 1) := by decide +kernel
theorem dX1_signOfSquare_17 : decode cX1_signOfSquare 17 = .ok (.istore 5, 2) := by decide +kernel
theorem dX1_signOfSquare_19 : decode cX1_signOfSquare 19 = .ok (.iload 5, 2) := by decide +kernel
theorem dX1_signOfSquare_21 : decode cX1_signOfSquare 21 = .ok (.ifCond .eq 12, 3) := by decide +kernel
theorem dX1_signOfSquare_24 : decode cX1_signOfSquare 24 = .ok (.iload 5, 2) := by decide +kernel
theorem dX1_signOfSquare_26 : decode cX1_signOfSquare 26 = .ok (.iload 4, 2) := by decide +kernel
theorem dX1_signOfSquare_28 : decode cX1_signOfSquare 28 = .ok (.if_icmp .eq 5, 3) := by decide +kernel
theorem dX1_signOfSquare_31 : decode cX1_signOfSquare 31 = .ok (.iconst 2, 1) := by decide +kernel
theorem dX1_signOfSquare_32 : decode cX1_signOfSquare 32 = .ok (.ireturn, 1) := by decide +kernel
theorem dX1_signOfSquare_33 : decode cX1_signOfSquare 33 = .ok (.iload_n 2, 1) := by decide +kernel
theorem dX1_signOfSquare_34 : decode cX1_signOfSquare 34 = .ok (.iconst 1, 1) := by decide +kernel
theorem dX1_signOfSquare_35 : decode cX1_signOfSquare 35 = .ok (.iadd, 1) := by decide +kernel
theorem dX1_signOfSquare_36 : decode cX1_signOfSquare 36 = .ok (.istore 6, 2) := by decide +kernel
theorem dX1_signOfSquare_38 : decode cX1_signOfSquare 38 = .ok (.iload 6, 2) := by decide +kernel
theorem dX1_signOfSquare_40 : decode cX1_signOfSquare 40 = .ok (.iload_n 2, 1) := by decide +kernel
theorem dX1_signOfSquare_41 : decode cX1_signOfSquare 41 = .ok (.iload_n 3, 1) := by decide +kernel
theorem dX1_signOfSquare_42 : decode cX1_signOfSquare 42 = .ok (.iadd, 1) := by decide +kernel
theorem dX1_signOfSquare_43 : decode cX1_signOfSquare 43 = .ok (.if_icmp .ge 32, 3) := by decide +kernel
theorem dX1_signOfSquare_46 : decode cX1_signOfSquare 46 = .ok (.iload 6, 2) := by decide +kernel
theorem dX1_signOfSquare_48 : decode cX1_signOfSquare 48 = .ok (.bipush 16, 2) := by decide +kernel
theorem dX1_signOfSquare_50 : decode cX1_signOfSquare 50 = .ok (.if_icmp .ge 25, 3) := by decide +kernel
theorem dX1_signOfSquare_53 : decode cX1_signOfSquare 53 = .ok (.aload_n 0, 1) := by decide +kernel
theorem dX1_signOfSquare_54 : decode cX1_signOfSquare 54 = .ok (.iload 6, 2) := by decide +kernel
theorem dX1_signOfSquare_56 : decode cX1_signOfSquare 56 = .ok (.invokevirtual 20, 3) := by decide +kernel
theorem dX1_signOfSquare_59 : decode cX1_signOfSquare 59 = .ok (.iload 4, 2) := by decide +kernel
theorem dX1_signOfSquare_61 : decode cX1_signOfSquare 61 = .ok (.iand, 1) := by decide +kernel
theorem dX1_signOfSquare_62 : decode cX1_signOfSquare 62 = .ok (.iload 5, 2) := by decide +kernel
theorem dX1_signOfSquare_64 : decode cX1_signOfSquare 64 = .ok (.if_icmp .eq 5, 3) := by decide +kernel
theorem dX1_signOfSquare_67 : decode cX1_signOfSquare 67 = .ok (.iconst 2, 1) := by decide +kernel
theorem dX1_signOfSquare_68 : decode cX1_signOfSquare 68 = .ok (.ireturn, 1) := by decide +kernel
theorem dX1_signOfSquare_69 : decode cX1_signOfSquare 69 = .ok (.iinc 6 1, 3) := by decide +kernel
theorem dX1_signOfSquare_72 : decode cX1_signOfSquare 72 = .ok (.goto (-34), 3) := by decide +kernel
theorem dX1_signOfSquare_75 : decode cX1_signOfSquare 75 = .ok (.iload 5, 2) := by decide +kernel
theorem dX1_signOfSquare_77 : decode cX1_signOfSquare 77 = .ok (.ifCond .ne 7, 3) := by decide +kernel
theorem dX1_signOfSquare_80 : decode cX1_signOfSquare 80 = .ok (.iconst 0, 1) := by decide +kernel
theorem dX1_signOfSquare_81 : decode cX1_signOfSquare 81 = .ok (.goto 4, 3) := by decide +kernel
theorem dX1_signOfSquare_84 : decode cX1_signOfSquare 84 = .ok (.iconst 1, 1) := by decide +kernel
theorem dX1_signOfSquare_85 : decode cX1_signOfSquare 85 = .ok (.ireturn, 1) := by decide +kernel
set_option maxRecDepth 20000 in
theorem ggX1_sideOfBlock_X1_signOfSquare : GoodIn wsX1_sideOfBlock wsX1_signOfSquare := goodIn_r _ [5, 6, 7, 8, 4, 9, 10, 11] (by decide +kernel) (by decide +kernel)
set_option maxRecDepth 20000 in
theorem gX1_sideOfBlock_X1_signOfSquare : GoodIn wsX1_sideOfBlock (wsV RX1 43 RX1 yX1_signOfSquare wsX1_signOfSquare) := goodIn_app (goodIn_of _ (by decide +kernel)) ggX1_sideOfBlock_X1_signOfSquare
theorem dX1_sideOfBlock_0 : decode cX1_sideOfBlock 0 = .ok (.bipush 16, 2) := by decide +kernel
theorem dX1_sideOfBlock_2 : decode cX1_sideOfBlock 2 = .ok (.istore_n 3, 1) := by decide +kernel
theorem dX1_sideOfBlock_3 : decode cX1_sideOfBlock 3 = .ok (.iload_n 3, 1) := by decide +kernel
theorem dX1_sideOfBlock_4 : decode cX1_sideOfBlock 4 = .ok (.iconst 1, 1) := by decide +kernel
theorem dX1_sideOfBlock_5 : decode cX1_sideOfBlock 5 = .ok (.if_icmp .le 29, 3) := by decide +kernel
theorem dX1_sideOfBlock_8 : decode cX1_sideOfBlock 8 = .ok (.aload_n 0, 1) := by decide +kernel
theorem dX1_sideOfBlock_9 : decode cX1_sideOfBlock 9 = .ok (.iload_n 1, 1) := by decide +kernel
theorem dX1_sideOfBlock_10 : decode cX1_sideOfBlock 10 = .ok (.iload_n 3, 1) := by decide +kernel
theorem dX1_sideOfBlock_11 : decode cX1_sideOfBlock 11 = .ok (.ineg, 1) := by decide +kernel
theorem dX1_sideOfBlock_12 : decode cX1_sideOfBlock 12 = .ok (.iand, 1) := by decide +kernel
theorem dX1_sideOfBlock_13 : decode cX1_sideOfBlock 13 = .ok (.iload_n 2, 1) := by decide +kernel
theorem dX1_sideOfBlock_14 : decode cX1_sideOfBlock 14 = .ok (.iload_n 3, 1) := by decide +kernel
theorem dX1_sideOfBlock_15 : decode cX1_sideOfBlock 15 = .ok (.ineg, 1) := by decide +kernel
theorem dX1_sideOfBlock_16 : decode cX1_sideOfBlock 16 = .ok (.iand, 1) := by decide +kernel
theorem dX1_sideOfBlock_17 : decode cX1_sideOfBlock 17 = .ok (.iload_n 3, 1) := by decide +kernel
theorem dX1_sideOfBlock_18 : decode cX1_sideOfBlock 18 = .ok (.invokevirtual 43, 3) := by decide +kernel
theorem dX1_sideOfBlock_21 : decode cX1_sideOfBlock 21 = .ok (.iconst 2, 1) := by decide +kernel
theorem dX1_sideOfBlock_22 : decode cX1_sideOfBlock 22 = .ok (.if_icmp .eq 5, 3) := by decide +kernel
theorem dX1_sideOfBlock_25 : decode cX1_sideOfBlock 25 = .ok (.iload_n 3, 1) := by decide +kernel
theorem dX1_sideOfBlock_26 : decode cX1_sideOfBlock 26 = .ok (.ireturn, 1) := by decide +kernel
theorem dX1_sideOfBlock_27 : decode cX1_sideOfBlock 27 = .ok (.iload_n 3, 1) := by decide +kernel
theorem dX1_sideOfBlock_28 : decode cX1_sideOfBlock 28 = .ok (.iconst 2, 1) := by decide +kernel
theorem dX1_sideOfBlock_29 : decode cX1_sideOfBlock 29 = .ok (.idiv, 1) := by decide +kernel
theorem dX1_sideOfBlock_30 : decode cX1_sideOfBlock 30 = .ok (.istore_n 3, 1) := by decide +kernel
theorem dX1_sideOfBlock_31 : decode cX1_sideOfBlock 31 = .ok (.goto (-28), 3) := by decide +kernel
theorem dX1_sideOfBlock_34 : decode cX1_sideOfBlock 34 = .ok (.iconst 1, 1) := by decide +kernel
theorem dX1_sideOfBlock_35 : decode cX1_sideOfBlock 35 = .ok (.ireturn, 1) := by decide +kernel
set_option maxRecDepth 20000 in
theorem ggX1_distanceFrom_X1_gapInRow : GoodIn wsX1_distanceFrom wsX1_gapInRow := goodIn_r _ [9] (by decide +kernel) (by decide +kernel)
set_option maxRecDepth 20000 in
theorem gX1_distanceFrom_X1_gapInRow : GoodIn wsX1_distanceFrom (va_wsS RX1 47 yX1_gapInRow wsX1_gapInRow) := goodIn_app (goodIn_of _ (by decide +kernel)) ggX1_distanceFrom_X1_gapInRow
theorem dX1_distanceFrom_0 : decode cX1_distanceFrom 0 = .ok (.iconst (-1), 1) := by decide +kernel
theorem dX1_distanceFrom_1 : decode cX1_distanceFrom 1 = .ok (.istore_n 3, 1) := by decide +kernel
theorem dX1_distanceFrom_2 : decode cX1_distanceFrom 2 = .ok (.iconst 0, 1) := by decide +kernel
theorem dX1_distanceFrom_3 : decode cX1_distanceFrom 3 = .ok (.istore 4, 2) := by decide +kernel
theorem dX1_distanceFrom_5 : decode cX1_distanceFrom 5 = .ok (.iload 4, 2) := by decide +kernel
theorem dX1_distanceFrom_7 : decode cX1_distanceFrom 7 = .ok (.bipush 16, 2) := by decide +kernel
theorem dX1_distanceFrom_9 : decode cX1_distanceFrom 9 = .ok (.if_icmp .ge 54, 3) := by decide +kernel
theorem dX1_distanceFrom_12 : decode cX1_distanceFrom 12 = .ok (.aload_n 0, 1) := by decide +kernel
theorem dX1_distanceFrom_13 : decode cX1_distanceFrom 13 = .ok (.getfield 9, 3) := by decide +kernel
theorem dX1_distanceFrom_16 : decode cX1_distanceFrom 16 = .ok (.iload 4, 2) := by decide +kernel
theorem dX1_distanceFrom_18 : decode cX1_distanceFrom 18 = .ok (.iaload, 1) := by decide +kernel
theorem dX1_distanceFrom_19 : decode cX1_distanceFrom 19 = .ok (.iload_n 1, 1) := by decide +kernel
theorem dX1_distanceFrom_20 : decode cX1_distanceFrom 20 = .ok (.invokestatic 47, 3) := by decide +kernel
theorem dX1_distanceFrom_23 : decode cX1_distanceFrom 23 = .ok (.istore 5, 2) := by decide +kernel
theorem dX1_distanceFrom_25 : decode cX1_distanceFrom 25 = .ok (.iload 5, 2) := by decide +kernel
theorem dX1_distanceFrom_27 : decode cX1_distanceFrom 27 = .ok (.iload 4, 2) := by decide +kernel
theorem dX1_distanceFrom_29 : decode cX1_distanceFrom 29 = .ok (.iload_n 2, 1) := by decide +kernel
theorem dX1_distanceFrom_30 : decode cX1_distanceFrom 30 = .ok (.isub, 1) := by decide +kernel
theorem dX1_distanceFrom_31 : decode cX1_distanceFrom 31 = .ok (.invokestatic 51, 3) := by decide +kernel
theorem dX1_distanceFrom_34 : decode cX1_distanceFrom 34 = .ok (.iadd, 1) := by decide +kernel
theorem dX1_distanceFrom_35 : decode cX1_distanceFrom 35 = .ok (.istore 6, 2) := by decide +kernel
theorem dX1_distanceFrom_37 : decode cX1_distanceFrom 37 = .ok (.iload 5, 2) := by decide +kernel
theorem dX1_distanceFrom_39 : decode cX1_distanceFrom 39 = .ok (.iconst (-1), 1) := by decide +kernel
theorem dX1_distanceFrom_40 : decode cX1_distanceFrom 40 = .ok (.if_icmp .eq 17, 3) := by decide +kernel
theorem dX1_distanceFrom_43 : decode cX1_distanceFrom 43 = .ok (.iload_n 3, 1) := by decide +kernel
theorem dX1_distanceFrom_44 : decode cX1_distanceFrom 44 = .ok (.iconst (-1), 1) := by decide +kernel
theorem dX1_distanceFrom_45 : decode cX1_distanceFrom 45 = .ok (.if_icmp .eq 9, 3) := by decide +kernel
theorem dX1_distanceFrom_48 : decode cX1_distanceFrom 48 = .ok (.iload 6, 2) := by decide +kernel
theorem dX1_distanceFrom_50 : decode cX1_distanceFrom 50 = .ok (.iload_n 3, 1) := by decide +kernel
theorem dX1_distanceFrom_51 : decode cX1_distanceFrom 51 = .ok (.if_icmp .ge 6, 3) := by decide +kernel
theorem dX1_distanceFrom_54 : decode cX1_distanceFrom 54 = .ok (.iload 6, 2) := by decide +kernel
theorem dX1_distanceFrom_56 : decode cX1_distanceFrom 56 = .ok (.istore_n 3, 1) := by decide +kernel
theorem dX1_distanceFrom_57 : decode cX1_distanceFrom 57 = .ok (.iinc 4 1, 3) := by decide +kernel
theorem dX1_distanceFrom_60 : decode cX1_distanceFrom 60 = .ok (.goto (-55), 3) := by decide +kernel
theorem dX1_distanceFrom_63 : decode cX1_distanceFrom 63 = .ok (.iload_n 3, 1) := by decide +kernel
theorem dX1_distanceFrom_64 : decode cX1_distanceFrom 64 = .ok (.ireturn, 1) := by decide +kernel
theorem dX1_gapInRow_0 : decode cX1_gapInRow 0 = .ok (.iconst 1, 1) := by decide +kernel
theorem dX1_gapInRow_1 : decode cX1_gapInRow 1 = .ok (.iload_n 1, 1) := by decide +kernel
theorem dX1_gapInRow_2 : decode cX1_gapInRow 2 = .ok (.ishl, 1) := by decide +kernel
theorem dX1_gapInRow_3 : decode cX1_gapInRow 3 = .ok (.istore_n 2, 1) := by decide +kernel
theorem dX1_gapInRow_4 : decode cX1_gapInRow 4 = .ok (.iconst 0, 1) := by decide +kernel
theorem dX1_gapInRow_5 : decode cX1_gapInRow 5 = .ok (.istore_n 3, 1) := by decide +kernel
theorem dX1_gapInRow_6 : decode cX1_gapInRow 6 = .ok (.iload_n 3, 1) := by decide +kernel
theorem dX1_gapInRow_7 : decode cX1_gapInRow 7 = .ok (.bipush 16, 2) := by decide +kernel
theorem dX1_gapInRow_9 : decode cX1_gapInRow 9 = .ok (.if_icmp .ge 31, 3) := by decide +kernel
theorem dX1_gapInRow_12 : decode cX1_gapInRow 12 = .ok (.iload_n 0, 1) := by decide +kernel
theorem dX1_gapInRow_13 : decode cX1_gapInRow 13 = .ok (.ifCond .eq 27, 3) := by decide +kernel
theorem dX1_gapInRow_16 : decode cX1_gapInRow 16 = .ok (.iload_n 0, 1) := by decide +kernel
theorem dX1_gapInRow_17 : decode cX1_gapInRow 17 = .ok (.iload_n 2, 1) := by decide +kernel
theorem dX1_gapInRow_18 : decode cX1_gapInRow 18 = .ok (.iand, 1) := by decide +kernel
theorem dX1_gapInRow_19 : decode cX1_gapInRow 19 = .ok (.ifCond .eq 5, 3) := by decide +kernel
theorem dX1_gapInRow_22 : decode cX1_gapInRow 22 = .ok (.iload_n 3, 1) := by decide +kernel
theorem dX1_gapInRow_23 : decode cX1_gapInRow 23 = .ok (.ireturn, 1) := by decide +kernel
theorem dX1_gapInRow_24 : decode cX1_gapInRow 24 = .ok (.iload_n 2, 1) := by decide +kernel
theorem dX1_gapInRow_25 : decode cX1_gapInRow 25 = .ok (.iload_n 2, 1) := by decide +kernel
theorem dX1_gapInRow_26 : decode cX1_gapInRow 26 = .ok (.iconst 1, 1) := by decide +kernel
theorem dX1_gapInRow_27 : decode cX1_gapInRow 27 = .ok (.ishl, 1) := by decide +kernel
theorem dX1_gapInRow_28 : decode cX1_gapInRow 28 = .ok (.iload_n 2, 1) := by decide +kernel
theorem dX1_gapInRow_29 : decode cX1_gapInRow 29 = .ok (.iconst 1, 1) := by decide +kernel
theorem dX1_gapInRow_30 : decode cX1_gapInRow 30 = .ok (.iushr, 1) := by decide +kernel
theorem dX1_gapInRow_31 : decode cX1_gapInRow 31 = .ok (.ior, 1) := by decide +kernel
theorem dX1_gapInRow_32 : decode cX1_gapInRow 32 = .ok (.ior, 1) := by decide +kernel
theorem dX1_gapInRow_33 : decode cX1_gapInRow 33 = .ok (.istore_n 2, 1) := by decide +kernel
theorem dX1_gapInRow_34 : decode cX1_gapInRow 34 = .ok (.iinc 3 1, 3) := by decide +kernel
theorem dX1_gapInRow_37 : decode cX1_gapInRow 37 = .ok (.goto (-31), 3) := by decide +kernel
theorem dX1_gapInRow_40 : decode cX1_gapInRow 40 = .ok (.iconst (-1), 1) := by decide +kernel
theorem dX1_gapInRow_41 : decode cX1_gapInRow 41 = .ok (.ireturn, 1) := by decide +kernel
set_option maxRecDepth 20000 in
theorem ggX2_init_X1_init : GoodIn wsX2_init wsX1_init := goodIn_r _ [14, 15, 2, 3, 8, 16, 21] (by decide +kernel) (by decide +kernel)
set_option maxRecDepth 20000 in
theorem gX2_init_X1_init_n11 : GoodIn wsX2_init (wsX1_init) := ggX2_init_X1_init
set_option maxRecDepth 20000 in
theorem ggX2_init_J7_fill_53178 : GoodIn wsX2_init wsJ7_fill_53178 := goodIn_r _ [20] (by decide +kernel) (by decide +kernel)
set_option maxRecDepth 20000 in
theorem gX2_init_J7_fill_53178 : GoodIn wsX2_init (va_wsS RX2 32 yJ7_fill_53178 wsJ7_fill_53178) := goodIn_app (goodIn_of _ (by decide +kernel)) ggX2_init_J7_fill_53178
theorem dX2_init_0 : decode cX2_init 0 = .ok (.aload_n 0, 1) := by decide +kernel
theorem dX2_init_1 : decode cX2_init 1 = .ok (.invokespecial 3, 3) := by decide +kernel
theorem dX2_init_4 : decode cX2_init 4 = .ok (.aload_n 0, 1) := by decide +kernel
theorem dX2_init_5 : decode cX2_init 5 = .ok (.new 9, 3) := by decide +kernel
theorem dX2_init_8 : decode cX2_init 8 = .ok (.dup, 1) := by decide +kernel
theorem dX2_init_9 : decode cX2_init 9 = .ok (.invokespecial 11, 3) := by decide +kernel
theorem dX2_init_12 : decode cX2_init 12 = .ok (.putfield 12, 3) := by decide +kernel
theorem dX2_init_15 : decode cX2_init 15 = .ok (.aload_n 0, 1) := by decide +kernel
theorem dX2_init_16 : decode cX2_init 16 = .ok (.sipush 256, 3) := by decide +kernel
theorem dX2_init_19 : decode cX2_init 19 = .ok (.newarray .int, 2) := by decide +kernel
theorem dX2_init_21 : decode cX2_init 21 = .ok (.putfield 18, 3) := by decide +kernel
theorem dX2_init_24 : decode cX2_init 24 = .ok (.aload_n 0, 1) := by decide +kernel
theorem dX2_init_25 : decode cX2_init 25 = .ok (.sipush 256, 3) := by decide +kernel
theorem dX2_init_28 : decode cX2_init 28 = .ok (.newarray .int, 2) := by decide +kernel
theorem dX2_init_30 : decode cX2_init 30 = .ok (.putfield 22, 3) := by decide +kernel
theorem dX2_init_33 : decode cX2_init 33 = .ok (.aload_n 0, 1) := by decide +kernel
theorem dX2_init_34 : decode cX2_init 34 = .ok (.sipush 768, 3) := by decide +kernel
theorem dX2_init_37 : decode cX2_init 37 = .ok (.newarray .int, 2) := by decide +kernel
theorem dX2_init_39 : decode cX2_init 39 = .ok (.putfield 25, 3) := by decide +kernel
theorem dX2_init_42 : decode cX2_init 42 = .ok (.aload_n 0, 1) := by decide +kernel
theorem dX2_init_43 : decode cX2_init 43 = .ok (.iconst 0, 1) := by decide +kernel
theorem dX2_init_44 : decode cX2_init 44 = .ok (.putfield 28, 3) := by decide +kernel
theorem dX2_init_47 : decode cX2_init 47 = .ok (.aload_n 0, 1) := by decide +kernel
theorem dX2_init_48 : decode cX2_init 48 = .ok (.getfield 18, 3) := by decide +kernel
theorem dX2_init_51 : decode cX2_init 51 = .ok (.iconst (-1), 1) := by decide +kernel
theorem dX2_init_52 : decode cX2_init 52 = .ok (.invokestatic 32, 3) := by decide +kernel
theorem dX2_init_55 : decode cX2_init 55 = .ok (.return_, 1) := by decide +kernel
set_option maxRecDepth 20000 in
theorem ggX2_look_X1_sameAs : GoodIn wsX2_look wsX1_sameAs := goodIn_r _ [8, 9, 57] (by decide +kernel) (by decide +kernel)
set_option maxRecDepth 20000 in
theorem gX2_look_X1_sameAs : GoodIn wsX2_look (wsV RX2 38 RX1 yX1_sameAs wsX1_sameAs) := goodIn_app (goodIn_of _ (by decide +kernel)) ggX2_look_X1_sameAs
set_option maxRecDepth 20000 in
theorem ggX2_look_X1_take : GoodIn wsX2_look wsX1_take := goodIn_r _ [13, 9, 57] (by decide +kernel) (by decide +kernel)
set_option maxRecDepth 20000 in
theorem gX2_look_X1_take : GoodIn wsX2_look (wsV RX2 42 RX1 yX1_take wsX1_take) := goodIn_app (goodIn_of _ (by decide +kernel)) ggX2_look_X1_take
set_option maxRecDepth 20000 in
theorem ggX2_look_J7_fill_53178 : GoodIn wsX2_look wsJ7_fill_53178 := goodIn_r _ [17] (by decide +kernel) (by decide +kernel)
set_option maxRecDepth 20000 in
theorem gX2_look_J7_fill_53178 : GoodIn wsX2_look (va_wsS RX2 32 yJ7_fill_53178 wsJ7_fill_53178) := goodIn_app (goodIn_of _ (by decide +kernel)) ggX2_look_J7_fill_53178
set_option maxRecDepth 20000 in
theorem ggX2_look_X1_isDark : GoodIn wsX2_look wsX1_isDark := goodIn_r _ [21, 9, 57] (by decide +kernel) (by decide +kernel)
set_option maxRecDepth 20000 in
theorem gX2_look_X1_isDark : GoodIn wsX2_look (wsV RX2 46 RX1 yX1_isDark wsX1_isDark) := goodIn_app (goodIn_of _ (by decide +kernel)) ggX2_look_X1_isDark
set_option maxRecDepth 20000 in
theorem ggX2_look_X2_gather : GoodIn wsX2_look wsX2_gather := goodIn_r _ [26, 27, 28, 29, 30, 25, 31, 3, 32, 33, 34, 35, 36, 1, 2, 18, 19, 20, 7, 21, 9, 37, 38, 39, 40, 41, 42, 43, 44, 45, 46, 47, 48, 49, 50, 51, 52, 53, 54, 55, 56, 57] (by decide +kernel) (by decide +kernel)
set_option maxRecDepth 20000 in
theorem gX2_look_X2_gather : GoodIn wsX2_look (wsV RX2 50 RX2 yX2_gather wsX2_gather) := goodIn_app (goodIn_of _ (by decide +kernel)) ggX2_look_X2_gather
theorem dX2_look_0 : decode cX2_look 0 = .ok (.aload_n 0, 1) := by decide +kernel
theorem dX2_look_1 : decode cX2_look 1 = .ok (.getfield 12, 3) := by decide +kernel
theorem dX2_look_4 : decode cX2_look 4 = .ok (.aload_n 1, 1) := by decide +kernel
theorem dX2_look_5 : decode cX2_look 5 = .ok (.invokevirtual 38, 3) := by decide +kernel
theorem dX2_look_8 : decode cX2_look 8 = .ok (.ifCond .eq 4, 3) := by decide +kernel
theorem dX2_look_11 : decode cX2_look 11 = .ok (.return_, 1) := by decide +kernel
theorem dX2_look_12 : decode cX2_look 12 = .ok (.aload_n 0, 1) := by decide +kernel
theorem dX2_look_13 : decode cX2_look 13 = .ok (.getfield 12, 3) := by decide +kernel
theorem dX2_look_16 : decode cX2_look 16 = .ok (.aload_n 1, 1) := by decide +kernel
theorem dX2_look_17 : decode cX2_look 17 = .ok (.invokevirtual 42, 3) := by decide +kernel
theorem dX2_look_20 : decode cX2_look 20 = .ok (.aload_n 0, 1) := by decide +kernel
theorem dX2_look_21 : decode cX2_look 21 = .ok (.getfield 18, 3) := by decide +kernel
theorem dX2_look_24 : decode cX2_look 24 = .ok (.iconst (-1), 1) := by decide +kernel
theorem dX2_look_25 : decode cX2_look 25 = .ok (.invokestatic 32, 3) := by decide +kernel
theorem dX2_look_28 : decode cX2_look 28 = .ok (.aload_n 0, 1) := by decide +kernel
theorem dX2_look_29 : decode cX2_look 29 = .ok (.iconst 0, 1) := by decide +kernel
theorem dX2_look_30 : decode cX2_look 30 = .ok (.putfield 28, 3) := by decide +kernel
theorem dX2_look_33 : decode cX2_look 33 = .ok (.iconst 0, 1) := by decide +kernel
theorem dX2_look_34 : decode cX2_look 34 = .ok (.istore_n 2, 1) := by decide +kernel
theorem dX2_look_35 : decode cX2_look 35 = .ok (.iload_n 2, 1) := by decide +kernel
theorem dX2_look_36 : decode cX2_look 36 = .ok (.sipush 256, 3) := by decide +kernel
theorem dX2_look_39 : decode cX2_look 39 = .ok (.if_icmp .ge 62, 3) := by decide +kernel
theorem dX2_look_42 : decode cX2_look 42 = .ok (.aload_n 0, 1) := by decide +kernel
theorem dX2_look_43 : decode cX2_look 43 = .ok (.getfield 18, 3) := by decide +kernel
theorem dX2_look_46 : decode cX2_look 46 = .ok (.iload_n 2, 1) := by decide +kernel
theorem dX2_look_47 : decode cX2_look 47 = .ok (.iaload, 1) := by decide +kernel
theorem dX2_look_48 : decode cX2_look 48 = .ok (.iconst (-1), 1) := by decide +kernel
theorem dX2_look_49 : decode cX2_look 49 = .ok (.if_icmp .ne 46, 3) := by decide +kernel
theorem dX2_look_52 : decode cX2_look 52 = .ok (.aload_n 0, 1) := by decide +kernel
theorem dX2_look_53 : decode cX2_look 53 = .ok (.getfield 12, 3) := by decide +kernel
theorem dX2_look_56 : decode cX2_look 56 = .ok (.iload_n 2, 1) := by decide +kernel
theorem dX2_look_57 : decode cX2_look 57 = .ok (.bipush 16, 2) := by decide +kernel
theorem dX2_look_59 : decode cX2_look 59 = .ok (.irem, 1) := by decide +kernel
theorem dX2_look_60 : decode cX2_look 60 = .ok (.iload_n 2, 1) := by decide +kernel
theorem dX2_look_61 : decode cX2_look 61 = .ok (.bipush 16, 2) := by decide +kernel
theorem dX2_look_63 : decode cX2_look 63 = .ok (.idiv, 1) := by decide +kernel
theorem dX2_look_64 : decode cX2_look 64 = .ok (.invokevirtual 46, 3) := by decide +kernel
theorem dX2_look_67 : decode cX2_look 67 = .ok (.ifCond .eq 28, 3) := by decide +kernel
theorem dX2_look_70 : decode cX2_look 70 = .ok (.aload_n 0, 1) := by decide +kernel
theorem dX2_look_71 : decode cX2_look 71 = .ok (.getfield 28, 3) := by decide +kernel
theorem dX2_look_74 : decode cX2_look 74 = .ok (.sipush 128, 3) := by decide +kernel
theorem dX2_look_77 : decode cX2_look 77 = .ok (.if_icmp .ge 18, 3) := by decide +kernel
theorem dX2_look_80 : decode cX2_look 80 = .ok (.aload_n 0, 1) := by decide +kernel
theorem dX2_look_81 : decode cX2_look 81 = .ok (.iload_n 2, 1) := by decide +kernel
theorem dX2_look_82 : decode cX2_look 82 = .ok (.invokevirtual 50, 3) := by decide +kernel
theorem dX2_look_85 : decode cX2_look 85 = .ok (.aload_n 0, 1) := by decide +kernel
theorem dX2_look_86 : decode cX2_look 86 = .ok (.dup, 1) := by decide +kernel
theorem dX2_look_87 : decode cX2_look 87 = .ok (.getfield 28, 3) := by decide +kernel
theorem dX2_look_90 : decode cX2_look 90 = .ok (.iconst 1, 1) := by decide +kernel
theorem dX2_look_91 : decode cX2_look 91 = .ok (.iadd, 1) := by decide +kernel
theorem dX2_look_92 : decode cX2_look 92 = .ok (.putfield 28, 3) := by decide +kernel
theorem dX2_look_95 : decode cX2_look 95 = .ok (.iinc 2 1, 3) := by decide +kernel
theorem dX2_look_98 : decode cX2_look 98 = .ok (.goto (-63), 3) := by decide +kernel
theorem dX2_look_101 : decode cX2_look 101 = .ok (.return_, 1) := by decide +kernel
set_option maxRecDepth 20000 in
theorem ggX2_gather_X2_beginFigures : GoodIn wsX2_gather wsX2_beginFigures := goodIn_r _ [6, 7, 8, 36, 37, 38, 39, 40] (by decide +kernel) (by decide +kernel)
set_option maxRecDepth 20000 in
theorem gX2_gather_X2_beginFigures : GoodIn wsX2_gather (wsV RX2 54 RX2 yX2_beginFigures wsX2_beginFigures) := goodIn_app (goodIn_of _ (by decide +kernel)) ggX2_gather_X2_beginFigures
set_option maxRecDepth 20000 in
theorem ggX2_gather_X2_reach : GoodIn wsX2_gather wsX2_reach := goodIn_r _ [12, 13, 8, 7, 14, 1, 15, 16, 17, 18, 19, 20, 21, 22, 23, 5, 24, 36, 37, 38, 39, 40, 41] (by decide +kernel) (by decide +kernel)
set_option maxRecDepth 20000 in
theorem gX2_gather_X2_reach : GoodIn wsX2_gather (wsV RX2 58 RX2 yX2_reach wsX2_reach) := goodIn_app (goodIn_of _ (by decide +kernel)) ggX2_gather_X2_reach
set_option maxRecDepth 20000 in
theorem ggX2_gather_X2_noteFigures : GoodIn wsX2_gather wsX2_noteFigures := goodIn_r _ [28, 7, 8, 29, 30, 31, 32, 33, 34, 35, 36, 37, 38, 39, 40] (by decide +kernel) (by decide +kernel)
set_option maxRecDepth 20000 in
theorem gX2_gather_X2_noteFigures : GoodIn wsX2_gather (wsV RX2 62 RX2 yX2_noteFigures wsX2_noteFigures) := goodIn_app (goodIn_of _ (by decide +kernel)) ggX2_gather_X2_noteFigures
theorem dX2_gather_0 : decode cX2_gather 0 = .ok (.iload_n 1, 1) := by decide +kernel
theorem dX2_gather_1 : decode cX2_gather 1 = .ok (.bipush 16, 2) := by decide +kernel
theorem dX2_gather_3 : decode cX2_gather 3 = .ok (.irem, 1) := by decide +kernel
theorem dX2_gather_4 : decode cX2_gather 4 = .ok (.istore_n 2, 1) := by decide +kernel
theorem dX2_gather_5 : decode cX2_gather 5 = .ok (.iload_n 1, 1) := by decide +kernel
theorem dX2_gather_6 : decode cX2_gather 6 = .ok (.bipush 16, 2) := by decide +kernel
theorem dX2_gather_8 : decode cX2_gather 8 = .ok (.idiv, 1) := by decide +kernel
theorem dX2_gather_9 : decode cX2_gather 9 = .ok (.istore_n 3, 1) := by decide +kernel
theorem dX2_gather_10 : decode cX2_gather 10 = .ok (.aload_n 0, 1) := by decide +kernel
theorem dX2_gather_11 : decode cX2_gather 11 = .ok (.iload_n 2, 1) := by decide +kernel
theorem dX2_gather_12 : decode cX2_gather 12 = .ok (.iload_n 3, 1) := by decide +kernel
theorem dX2_gather_13 : decode cX2_gather 13 = .ok (.invokevirtual 54, 3) := by decide +kernel
theorem dX2_gather_16 : decode cX2_gather 16 = .ok (.aload_n 0, 1) := by decide +kernel
theorem dX2_gather_17 : decode cX2_gather 17 = .ok (.iload_n 2, 1) := by decide +kernel
theorem dX2_gather_18 : decode cX2_gather 18 = .ok (.iload_n 3, 1) := by decide +kernel
theorem dX2_gather_19 : decode cX2_gather 19 = .ok (.iconst 0, 1) := by decide +kernel
theorem dX2_gather_20 : decode cX2_gather 20 = .ok (.invokevirtual 58, 3) := by decide +kernel
theorem dX2_gather_23 : decode cX2_gather 23 = .ok (.istore 4, 2) := by decide +kernel
theorem dX2_gather_25 : decode cX2_gather 25 = .ok (.iconst 0, 1) := by decide +kernel
theorem dX2_gather_26 : decode cX2_gather 26 = .ok (.istore 5, 2) := by decide +kernel
theorem dX2_gather_28 : decode cX2_gather 28 = .ok (.iload 5, 2) := by decide +kernel
theorem dX2_gather_30 : decode cX2_gather 30 = .ok (.iload 4, 2) := by decide +kernel
theorem dX2_gather_32 : decode cX2_gather 32 = .ok (.if_icmp .ge 93, 3) := by decide +kernel
theorem dX2_gather_35 : decode cX2_gather 35 = .ok (.iload 5, 2) := by decide +kernel
theorem dX2_gather_37 : decode cX2_gather 37 = .ok (.sipush 256, 3) := by decide +kernel
theorem dX2_gather_40 : decode cX2_gather 40 = .ok (.if_icmp .ge 85, 3) := by decide +kernel
theorem dX2_gather_43 : decode cX2_gather 43 = .ok (.aload_n 0, 1) := by decide +kernel
theorem dX2_gather_44 : decode cX2_gather 44 = .ok (.getfield 22, 3) := by decide +kernel
theorem dX2_gather_47 : decode cX2_gather 47 = .ok (.iload 5, 2) := by decide +kernel
theorem dX2_gather_49 : decode cX2_gather 49 = .ok (.iaload, 1) := by decide +kernel
theorem dX2_gather_50 : decode cX2_gather 50 = .ok (.bipush 16, 2) := by decide +kernel
theorem dX2_gather_52 : decode cX2_gather 52 = .ok (.irem, 1) := by decide +kernel
theorem dX2_gather_53 : decode cX2_gather 53 = .ok (.istore_n 2, 1) := by decide +kernel
theorem dX2_gather_54 : decode cX2_gather 54 = .ok (.aload_n 0, 1) := by decide +kernel
theorem dX2_gather_55 : decode cX2_gather 55 = .ok (.getfield 22, 3) := by decide +kernel
theorem dX2_gather_58 : decode cX2_gather 58 = .ok (.iload 5, 2) := by decide +kernel
theorem dX2_gather_60 : decode cX2_gather 60 = .ok (.iaload, 1) := by decide +kernel
theorem dX2_gather_61 : decode cX2_gather 61 = .ok (.bipush 16, 2) := by decide +kernel
theorem dX2_gather_63 : decode cX2_gather 63 = .ok (.idiv, 1) := by decide +kernel
theorem dX2_gather_64 : decode cX2_gather 64 = .ok (.istore_n 3, 1) := by decide +kernel
theorem dX2_gather_65 : decode cX2_gather 65 = .ok (.aload_n 0, 1) := by decide +kernel
theorem dX2_gather_66 : decode cX2_gather 66 = .ok (.iload_n 2, 1) := by decide +kernel
theorem dX2_gather_67 : decode cX2_gather 67 = .ok (.iload_n 3, 1) := by decide +kernel
theorem dX2_gather_68 : decode cX2_gather 68 = .ok (.invokevirtual 62, 3) := by decide +kernel
theorem dX2_gather_71 : decode cX2_gather 71 = .ok (.aload_n 0, 1) := by decide +kernel
theorem dX2_gather_72 : decode cX2_gather 72 = .ok (.iload_n 2, 1) := by decide +kernel
theorem dX2_gather_73 : decode cX2_gather 73 = .ok (.iload_n 3, 1) := by decide +kernel
theorem dX2_gather_74 : decode cX2_gather 74 = .ok (.iconst 1, 1) := by decide +kernel
theorem dX2_gather_75 : decode cX2_gather 75 = .ok (.isub, 1) := by decide +kernel
theorem dX2_gather_76 : decode cX2_gather 76 = .ok (.iload 4, 2) := by decide +kernel
theorem dX2_gather_78 : decode cX2_gather 78 = .ok (.invokevirtual 58, 3) := by decide +kernel
theorem dX2_gather_81 : decode cX2_gather 81 = .ok (.istore 4, 2) := by decide +kernel
theorem dX2_gather_83 : decode cX2_gather 83 = .ok (.aload_n 0, 1) := by decide +kernel
theorem dX2_gather_84 : decode cX2_gather 84 = .ok (.iload_n 2, 1) := by decide +kernel
theorem dX2_gather_85 : decode cX2_gather 85 = .ok (.iconst 1, 1) := by decide +kernel
theorem dX2_gather_86 : decode cX2_gather 86 = .ok (.isub, 1) := by decide +kernel
theorem dX2_gather_87 : decode cX2_gather 87 = .ok (.iload_n 3, 1) := by decide +kernel
theorem dX2_gather_88 : decode cX2_gather 88 = .ok (.iload 4, 2) := by decide +kernel
theorem dX2_gather_90 : decode cX2_gather 90 = .ok (.invokevirtual 58, 3) := by decide +kernel
theorem dX2_gather_93 : decode cX2_gather 93 = .ok (.istore 4, 2) := by decide +kernel
theorem dX2_gather_95 : decode cX2_gather 95 = .ok (.aload_n 0, 1) := by decide +kernel
theorem dX2_gather_96 : decode cX2_gather 96 = .ok (.iload_n 2, 1) := by decide +kernel
theorem dX2_gather_97 : decode cX2_gather 97 = .ok (.iconst 1, 1) := by decide +kernel
theorem dX2_gather_98 : decode cX2_gather 98 = .ok (.iadd, 1) := by decide +kernel
theorem dX2_gather_99 : decode cX2_gather 99 = .ok (.iload_n 3, 1) := by decide +kernel
theorem dX2_gather_100 : decode cX2_gather 100 = .ok (.iload 4, 2) := by decide +kernel
theorem dX2_gather_102 : decode cX2_gather 102 = .ok (.invokevirtual 58, 3) := by decide +kernel
theorem dX2_gather_105 : decode cX2_gather 105 = .ok (.istore 4, 2) := by decide +kernel
theorem dX2_gather_107 : decode cX2_gather 107 = .ok (.aload_n 0, 1) := by decide +kernel
theorem dX2_gather_108 : decode cX2_gather 108 = .ok (.iload_n 2, 1) := by decide +kernel
theorem dX2_gather_109 : decode cX2_gather 109 = .ok (.iload_n 3, 1) := by decide +kernel
theorem dX2_gather_110 : decode cX2_gather 110 = .ok (.iconst 1, 1) := by decide +kernel
theorem dX2_gather_111 : decode cX2_gather 111 = .ok (.iadd, 1) := by decide +kernel
theorem dX2_gather_112 : decode cX2_gather 112 = .ok (.iload 4, 2) := by decide +kernel
theorem dX2_gather_114 : decode cX2_gather 114 = .ok (.invokevirtual 58, 3) := by decide +kernel
theorem dX2_gather_117 : decode cX2_gather 117 = .ok (.istore 4, 2) := by decide +kernel
theorem dX2_gather_119 : decode cX2_gather 119 = .ok (.iinc 5 1, 3) := by decide +kernel
theorem dX2_gather_122 : decode cX2_gather 122 = .ok (.goto (-94), 3) := by decide +kernel
theorem dX2_gather_125 : decode cX2_gather 125 = .ok (.return_, 1) := by decide +kernel
set_option maxRecDepth 20000 in
theorem ggX2_reach_X1_isDark : GoodIn wsX2_reach wsX1_isDark := goodIn_r _ [10, 11, 22] (by decide +kernel) (by decide +kernel)
set_option maxRecDepth 20000 in
theorem gX2_reach_X1_isDark : GoodIn wsX2_reach (wsV RX2 46 RX1 yX1_isDark wsX1_isDark) := goodIn_app (goodIn_of _ (by decide +kernel)) ggX2_reach_X1_isDark
set_option maxRecDepth 20000 in
theorem ggX2_reach_X2_labelAt : GoodIn wsX2_reach wsX2_labelAt := goodIn_r _ [16, 4, 17, 18, 19, 20, 21] (by decide +kernel) (by decide +kernel)
set_option maxRecDepth 20000 in
theorem gX2_reach_X2_labelAt : GoodIn wsX2_reach (wsV RX2 65 RX2 yX2_labelAt wsX2_labelAt) := goodIn_app (goodIn_of _ (by decide +kernel)) ggX2_reach_X2_labelAt
theorem dX2_reach_0 : decode cX2_reach 0 = .ok (.aload_n 0, 1) := by decide +kernel
theorem dX2_reach_1 : decode cX2_reach 1 = .ok (.getfield 12, 3) := by decide +kernel
theorem dX2_reach_4 : decode cX2_reach 4 = .ok (.iload_n 1, 1) := by decide +kernel
theorem dX2_reach_5 : decode cX2_reach 5 = .ok (.iload_n 2, 1) := by decide +kernel
theorem dX2_reach_6 : decode cX2_reach 6 = .ok (.invokevirtual 46, 3) := by decide +kernel
theorem dX2_reach_9 : decode cX2_reach 9 = .ok (.ifCond .ne 23, 3) := by decide +kernel
theorem dX2_reach_12 : decode cX2_reach 12 = .ok (.aload_n 0, 1) := by decide +kernel
theorem dX2_reach_13 : decode cX2_reach 13 = .ok (.getfield 25, 3) := by decide +kernel
theorem dX2_reach_16 : decode cX2_reach 16 = .ok (.aload_n 0, 1) := by decide +kernel
theorem dX2_reach_17 : decode cX2_reach 17 = .ok (.getfield 28, 3) := by decide +kernel
theorem dX2_reach_20 : decode cX2_reach 20 = .ok (.bipush 6, 2) := by decide +kernel
theorem dX2_reach_22 : decode cX2_reach 22 = .ok (.imul, 1) := by decide +kernel
theorem dX2_reach_23 : decode cX2_reach 23 = .ok (.iconst 1, 1) := by decide +kernel
theorem dX2_reach_24 : decode cX2_reach 24 = .ok (.iadd, 1) := by decide +kernel
theorem dX2_reach_25 : decode cX2_reach 25 = .ok (.dup2, 1) := by decide +kernel
theorem dX2_reach_26 : decode cX2_reach 26 = .ok (.iaload, 1) := by decide +kernel
theorem dX2_reach_27 : decode cX2_reach 27 = .ok (.iconst 1, 1) := by decide +kernel
theorem dX2_reach_28 : decode cX2_reach 28 = .ok (.iadd, 1) := by decide +kernel
theorem dX2_reach_29 : decode cX2_reach 29 = .ok (.iastore, 1) := by decide +kernel
theorem dX2_reach_30 : decode cX2_reach 30 = .ok (.iload_n 3, 1) := by decide +kernel
theorem dX2_reach_31 : decode cX2_reach 31 = .ok (.ireturn, 1) := by decide +kernel
theorem dX2_reach_32 : decode cX2_reach 32 = .ok (.aload_n 0, 1) := by decide +kernel
theorem dX2_reach_33 : decode cX2_reach 33 = .ok (.iload_n 1, 1) := by decide +kernel
theorem dX2_reach_34 : decode cX2_reach 34 = .ok (.iload_n 2, 1) := by decide +kernel
theorem dX2_reach_35 : decode cX2_reach 35 = .ok (.invokevirtual 65, 3) := by decide +kernel
theorem dX2_reach_38 : decode cX2_reach 38 = .ok (.iconst (-1), 1) := by decide +kernel
theorem dX2_reach_39 : decode cX2_reach 39 = .ok (.if_icmp .ne 10, 3) := by decide +kernel
theorem dX2_reach_42 : decode cX2_reach 42 = .ok (.iload_n 3, 1) := by decide +kernel
theorem dX2_reach_43 : decode cX2_reach 43 = .ok (.sipush 256, 3) := by decide +kernel
theorem dX2_reach_46 : decode cX2_reach 46 = .ok (.if_icmp .lt 5, 3) := by decide +kernel
theorem dX2_reach_49 : decode cX2_reach 49 = .ok (.iload_n 3, 1) := by decide +kernel
theorem dX2_reach_50 : decode cX2_reach 50 = .ok (.ireturn, 1) := by decide +kernel
theorem dX2_reach_51 : decode cX2_reach 51 = .ok (.aload_n 0, 1) := by decide +kernel
theorem dX2_reach_52 : decode cX2_reach 52 = .ok (.getfield 18, 3) := by decide +kernel
theorem dX2_reach_55 : decode cX2_reach 55 = .ok (.iload_n 2, 1) := by decide +kernel
theorem dX2_reach_56 : decode cX2_reach 56 = .ok (.bipush 16, 2) := by decide +kernel
theorem dX2_reach_58 : decode cX2_reach 58 = .ok (.imul, 1) := by decide +kernel
theorem dX2_reach_59 : decode cX2_reach 59 = .ok (.iload_n 1, 1) := by decide +kernel
theorem dX2_reach_60 : decode cX2_reach 60 = .ok (.iadd, 1) := by decide +kernel
theorem dX2_reach_61 : decode cX2_reach 61 = .ok (.aload_n 0, 1) := by decide +kernel
theorem dX2_reach_62 : decode cX2_reach 62 = .ok (.getfield 28, 3) := by decide +kernel
theorem dX2_reach_65 : decode cX2_reach 65 = .ok (.iastore, 1) := by decide +kernel
theorem dX2_reach_66 : decode cX2_reach 66 = .ok (.aload_n 0, 1) := by decide +kernel
theorem dX2_reach_67 : decode cX2_reach 67 = .ok (.getfield 22, 3) := by decide +kernel
theorem dX2_reach_70 : decode cX2_reach 70 = .ok (.iload_n 3, 1) := by decide +kernel
theorem dX2_reach_71 : decode cX2_reach 71 = .ok (.iload_n 2, 1) := by decide +kernel
theorem dX2_reach_72 : decode cX2_reach 72 = .ok (.bipush 16, 2) := by decide +kernel
theorem dX2_reach_74 : decode cX2_reach 74 = .ok (.imul, 1) := by decide +kernel
theorem dX2_reach_75 : decode cX2_reach 75 = .ok (.iload_n 1, 1) := by decide +kernel
theorem dX2_reach_76 : decode cX2_reach 76 = .ok (.iadd, 1) := by decide +kernel
theorem dX2_reach_77 : decode cX2_reach 77 = .ok (.iastore, 1) := by decide +kernel
theorem dX2_reach_78 : decode cX2_reach 78 = .ok (.iload_n 3, 1) := by decide +kernel
theorem dX2_reach_79 : decode cX2_reach 79 = .ok (.iconst 1, 1) := by decide +kernel
theorem dX2_reach_80 : decode cX2_reach 80 = .ok (.iadd, 1) := by decide +kernel
theorem dX2_reach_81 : decode cX2_reach 81 = .ok (.ireturn, 1) := by decide +kernel
theorem dX2_beginFigures_0 : decode cX2_beginFigures 0 = .ok (.aload_n 0, 1) := by decide +kernel
theorem dX2_beginFigures_1 : decode cX2_beginFigures 1 = .ok (.getfield 28, 3) := by decide +kernel
theorem dX2_beginFigures_4 : decode cX2_beginFigures 4 = .ok (.bipush 6, 2) := by decide +kernel
theorem dX2_beginFigures_6 : decode cX2_beginFigures 6 = .ok (.imul, 1) := by decide +kernel
theorem dX2_beginFigures_7 : decode cX2_beginFigures 7 = .ok (.istore_n 3, 1) := by decide +kernel
theorem dX2_beginFigures_8 : decode cX2_beginFigures 8 = .ok (.aload_n 0, 1) := by decide +kernel
theorem dX2_beginFigures_9 : decode cX2_beginFigures 9 = .ok (.getfield 25, 3) := by decide +kernel
theorem dX2_beginFigures_12 : decode cX2_beginFigures 12 = .ok (.iload_n 3, 1) := by decide +kernel
theorem dX2_beginFigures_13 : decode cX2_beginFigures 13 = .ok (.iconst 0, 1) := by decide +kernel
theorem dX2_beginFigures_14 : decode cX2_beginFigures 14 = .ok (.iadd, 1) := by decide +kernel
theorem dX2_beginFigures_15 : decode cX2_beginFigures 15 = .ok (.iconst 0, 1) := by decide +kernel
theorem dX2_beginFigures_16 : decode cX2_beginFigures 16 = .ok (.iastore, 1) := by decide +kernel
theorem dX2_beginFigures_17 : decode cX2_beginFigures 17 = .ok (.aload_n 0, 1) := by decide +kernel
theorem dX2_beginFigures_18 : decode cX2_beginFigures 18 = .ok (.getfield 25, 3) := by decide +kernel
theorem dX2_beginFigures_21 : decode cX2_beginFigures 21 = .ok (.iload_n 3, 1) := by decide +kernel
theorem dX2_beginFigures_22 : decode cX2_beginFigures 22 = .ok (.iconst 1, 1) := by decide +kernel
theorem dX2_beginFigures_23 : decode cX2_beginFigures 23 = .ok (.iadd, 1) := by decide +kernel
theorem dX2_beginFigures_24 : decode cX2_beginFigures 24 = .ok (.iconst 0, 1) := by decide +kernel
theorem dX2_beginFigures_25 : decode cX2_beginFigures 25 = .ok (.iastore, 1) := by decide +kernel
theorem dX2_beginFigures_26 : decode cX2_beginFigures 26 = .ok (.aload_n 0, 1) := by decide +kernel
theorem dX2_beginFigures_27 : decode cX2_beginFigures 27 = .ok (.getfield 25, 3) := by decide +kernel
theorem dX2_beginFigures_30 : decode cX2_beginFigures 30 = .ok (.iload_n 3, 1) := by decide +kernel
theorem dX2_beginFigures_31 : decode cX2_beginFigures 31 = .ok (.iconst 2, 1) := by decide +kernel
theorem dX2_beginFigures_32 : decode cX2_beginFigures 32 = .ok (.iadd, 1) := by decide +kernel
theorem dX2_beginFigures_33 : decode cX2_beginFigures 33 = .ok (.iload_n 1, 1) := by decide +kernel
theorem dX2_beginFigures_34 : decode cX2_beginFigures 34 = .ok (.iastore, 1) := by decide +kernel
theorem dX2_beginFigures_35 : decode cX2_beginFigures 35 = .ok (.aload_n 0, 1) := by decide +kernel
theorem dX2_beginFigures_36 : decode cX2_beginFigures 36 = .ok (.getfield 25, 3) := by decide +kernel
theorem dX2_beginFigures_39 : decode cX2_beginFigures 39 = .ok (.iload_n 3, 1) := by decide +kernel
theorem dX2_beginFigures_40 : decode cX2_beginFigures 40 = .ok (.iconst 3, 1) := by decide +kernel
theorem dX2_beginFigures_41 : decode cX2_beginFigures 41 = .ok (.iadd, 1) := by decide +kernel
theorem dX2_beginFigures_42 : decode cX2_beginFigures 42 = .ok (.iload_n 2, 1) := by decide +kernel
theorem dX2_beginFigures_43 : decode cX2_beginFigures 43 = .ok (.iastore, 1) := by decide +kernel
theorem dX2_beginFigures_44 : decode cX2_beginFigures 44 = .ok (.aload_n 0, 1) := by decide +kernel
theorem dX2_beginFigures_45 : decode cX2_beginFigures 45 = .ok (.getfield 25, 3) := by decide +kernel
theorem dX2_beginFigures_48 : decode cX2_beginFigures 48 = .ok (.iload_n 3, 1) := by decide +kernel
theorem dX2_beginFigures_49 : decode cX2_beginFigures 49 = .ok (.iconst 4, 1) := by decide +kernel
theorem dX2_beginFigures_50 : decode cX2_beginFigures 50 = .ok (.iadd, 1) := by decide +kernel
theorem dX2_beginFigures_51 : decode cX2_beginFigures 51 = .ok (.iload_n 1, 1) := by decide +kernel
theorem dX2_beginFigures_52 : decode cX2_beginFigures 52 = .ok (.iastore, 1) := by decide +kernel
theorem dX2_beginFigures_53 : decode cX2_beginFigures 53 = .ok (.aload_n 0, 1) := by decide +kernel
theorem dX2_beginFigures_54 : decode cX2_beginFigures 54 = .ok (.getfield 25, 3) := by decide +kernel
theorem dX2_beginFigures_57 : decode cX2_beginFigures 57 = .ok (.iload_n 3, 1) := by decide +kernel
theorem dX2_beginFigures_58 : decode cX2_beginFigures 58 = .ok (.iconst 5, 1) := by decide +kernel
theorem dX2_beginFigures_59 : decode cX2_beginFigures 59 = .ok (.iadd, 1) := by decide +kernel
theorem dX2_beginFigures_60 : decode cX2_beginFigures 60 = .ok (.iload_n 2, 1) := by decide +kernel
theorem dX2_beginFigures_61 : decode cX2_beginFigures 61 = .ok (.iastore, 1) := by decide +kernel
theorem dX2_beginFigures_62 : decode cX2_beginFigures 62 = .ok (.return_, 1) := by decide +kernel
theorem dX2_noteFigures_0 : decode cX2_noteFigures 0 = .ok (.aload_n 0, 1) := by decide +kernel
theorem dX2_noteFigures_1 : decode cX2_noteFigures 1 = .ok (.getfield 28, 3) := by decide +kernel
theorem dX2_noteFigures_4 : decode cX2_noteFigures 4 = .ok (.bipush 6, 2) := by decide +kernel
theorem dX2_noteFigures_6 : decode cX2_noteFigures 6 = .ok (.imul, 1) := by decide +kernel
theorem dX2_noteFigures_7 : decode cX2_noteFigures 7 = .ok (.istore_n 3, 1) := by decide +kernel
theorem dX2_noteFigures_8 : decode cX2_noteFigures 8 = .ok (.aload_n 0, 1) := by decide +kernel
theorem dX2_noteFigures_9 : decode cX2_noteFigures 9 = .ok (.getfield 25, 3) := by decide +kernel
theorem dX2_noteFigures_12 : decode cX2_noteFigures 12 = .ok (.iload_n 3, 1) := by decide +kernel
theorem dX2_noteFigures_13 : decode cX2_noteFigures 13 = .ok (.iconst 0, 1) := by decide +kernel
theorem dX2_noteFigures_14 : decode cX2_noteFigures 14 = .ok (.iadd, 1) := by decide +kernel
theorem dX2_noteFigures_15 : decode cX2_noteFigures 15 = .ok (.dup2, 1) := by decide +kernel
theorem dX2_noteFigures_16 : decode cX2_noteFigures 16 = .ok (.iaload, 1) := by decide +kernel
theorem dX2_noteFigures_17 : decode cX2_noteFigures 17 = .ok (.iconst 1, 1) := by decide +kernel
theorem dX2_noteFigures_18 : decode cX2_noteFigures 18 = .ok (.iadd, 1) := by decide +kernel
theorem dX2_noteFigures_19 : decode cX2_noteFigures 19 = .ok (.iastore, 1) := by decide +kernel
theorem dX2_noteFigures_20 : decode cX2_noteFigures 20 = .ok (.aload_n 0, 1) := by decide +kernel
theorem dX2_noteFigures_21 : decode cX2_noteFigures 21 = .ok (.getfield 25, 3) := by decide +kernel
theorem dX2_noteFigures_24 : decode cX2_noteFigures 24 = .ok (.iload_n 3, 1) := by decide +kernel
theorem dX2_noteFigures_25 : decode cX2_noteFigures 25 = .ok (.iconst 2, 1) := by decide +kernel
theorem dX2_noteFigures_26 : decode cX2_noteFigures 26 = .ok (.iadd, 1) := by decide +kernel
theorem dX2_noteFigures_27 : decode cX2_noteFigures 27 = .ok (.aload_n 0, 1) := by decide +kernel
theorem dX2_noteFigures_28 : decode cX2_noteFigures 28 = .ok (.getfield 25, 3) := by decide +kernel
theorem dX2_noteFigures_31 : decode cX2_noteFigures 31 = .ok (.iload_n 3, 1) := by decide +kernel
theorem dX2_noteFigures_32 : decode cX2_noteFigures 32 = .ok (.iconst 2, 1) := by decide +kernel
theorem dX2_noteFigures_33 : decode cX2_noteFigures 33 = .ok (.iadd, 1) := by decide +kernel
theorem dX2_noteFigures_34 : decode cX2_noteFigures 34 = .ok (.iaload, 1) := by decide +kernel
theorem dX2_noteFigures_35 : decode cX2_noteFigures 35 = .ok (.iload_n 1, 1) := by decide +kernel
theorem dX2_noteFigures_36 : decode cX2_noteFigures 36 = .ok (.invokestatic 69, 3) := by decide +kernel
theorem dX2_noteFigures_39 : decode cX2_noteFigures 39 = .ok (.iastore, 1) := by decide +kernel
theorem dX2_noteFigures_40 : decode cX2_noteFigures 40 = .ok (.aload_n 0, 1) := by decide +kernel
theorem dX2_noteFigures_41 : decode cX2_noteFigures 41 = .ok (.getfield 25, 3) := by decide +kernel
theorem dX2_noteFigures_44 : decode cX2_noteFigures 44 = .ok (.iload_n 3, 1) := by decide +kernel
theorem dX2_noteFigures_45 : decode cX2_noteFigures 45 = .ok (.iconst 3, 1) := by decide +kernel
theorem dX2_noteFigures_46 : decode cX2_noteFigures 46 = .ok (.iadd, 1) := by decide +kernel
theorem dX2_noteFigures_47 : decode cX2_noteFigures 47 = .ok (.aload_n 0, 1) := by decide +kernel
theorem dX2_noteFigures_48 : decode cX2_noteFigures 48 = .ok (.getfield 25, 3) := by decide +kernel
theorem dX2_noteFigures_51 : decode cX2_noteFigures 51 = .ok (.iload_n 3, 1) := by decide +kernel
theorem dX2_noteFigures_52 : decode cX2_noteFigures 52 = .ok (.iconst 3, 1) := by decide +kernel
theorem dX2_noteFigures_53 : decode cX2_noteFigures 53 = .ok (.iadd, 1) := by decide +kernel
theorem dX2_noteFigures_54 : decode cX2_noteFigures 54 = .ok (.iaload, 1) := by decide +kernel
theorem dX2_noteFigures_55 : decode cX2_noteFigures 55 = .ok (.iload_n 2, 1) := by decide +kernel
theorem dX2_noteFigures_56 : decode cX2_noteFigures 56 = .ok (.invokestatic 69, 3) := by decide +kernel
theorem dX2_noteFigures_59 : decode cX2_noteFigures 59 = .ok (.iastore, 1) := by decide +kernel
theorem dX2_noteFigures_60 : decode cX2_noteFigures 60 = .ok (.aload_n 0, 1) := by decide +kernel
theorem dX2_noteFigures_61 : decode cX2_noteFigures 61 = .ok (.getfield 25, 3) := by decide +kernel
theorem dX2_noteFigures_64 : decode cX2_noteFigures 64 = .ok (.iload_n 3, 1) := by decide +kernel
theorem dX2_noteFigures_65 : decode cX2_noteFigures 65 = .ok (.iconst 4, 1) := by decide +kernel
theorem dX2_noteFigures_66 : decode cX2_noteFigures 66 = .ok (.iadd, 1) := by decide +kernel
theorem dX2_noteFigures_67 : decode cX2_noteFigures 67 = .ok (.aload_n 0, 1) := by decide +kernel
theorem dX2_noteFigures_68 : decode cX2_noteFigures 68 = .ok (.getfield 25, 3) := by decide +kernel
theorem dX2_noteFigures_71 : decode cX2_noteFigures 71 = .ok (.iload_n 3, 1) := by decide +kernel
theorem dX2_noteFigures_72 : decode cX2_noteFigures 72 = .ok (.iconst 4, 1) := by decide +kernel
theorem dX2_noteFigures_73 : decode cX2_noteFigures 73 = .ok (.iadd, 1) := by decide +kernel
theorem dX2_noteFigures_74 : decode cX2_noteFigures 74 = .ok (.iaload, 1) := by decide +kernel
theorem dX2_noteFigures_75 : decode cX2_noteFigures 75 = .ok (.iload_n 1, 1) := by decide +kernel
theorem dX2_noteFigures_76 : decode cX2_noteFigures 76 = .ok (.invokestatic 74, 3) := by decide +kernel
theorem dX2_noteFigures_79 : decode cX2_noteFigures 79 = .ok (.iastore, 1) := by decide +kernel
theorem dX2_noteFigures_80 : decode cX2_noteFigures 80 = .ok (.aload_n 0, 1) := by decide +kernel
theorem dX2_noteFigures_81 : decode cX2_noteFigures 81 = .ok (.getfield 25, 3) := by decide +kernel
theorem dX2_noteFigures_84 : decode cX2_noteFigures 84 = .ok (.iload_n 3, 1) := by decide +kernel
theorem dX2_noteFigures_85 : decode cX2_noteFigures 85 = .ok (.iconst 5, 1) := by decide +kernel
theorem dX2_noteFigures_86 : decode cX2_noteFigures 86 = .ok (.iadd, 1) := by decide +kernel
theorem dX2_noteFigures_87 : decode cX2_noteFigures 87 = .ok (.aload_n 0, 1) := by decide +kernel
theorem dX2_noteFigures_88 : decode cX2_noteFigures 88 = .ok (.getfield 25, 3) := by decide +kernel
theorem dX2_noteFigures_91 : decode cX2_noteFigures 91 = .ok (.iload_n 3, 1) := by decide +kernel
theorem dX2_noteFigures_92 : decode cX2_noteFigures 92 = .ok (.iconst 5, 1) := by decide +kernel
theorem dX2_noteFigures_93 : decode cX2_noteFigures 93 = .ok (.iadd, 1) := by decide +kernel
theorem dX2_noteFigures_94 : decode cX2_noteFigures 94 = .ok (.iaload, 1) := by decide +kernel
theorem dX2_noteFigures_95 : decode cX2_noteFigures 95 = .ok (.iload_n 2, 1) := by decide +kernel
theorem dX2_noteFigures_96 : decode cX2_noteFigures 96 = .ok (.invokestatic 74, 3) := by decide +kernel
theorem dX2_noteFigures_99 : decode cX2_noteFigures 99 = .ok (.iastore, 1) := by decide +kernel
theorem dX2_noteFigures_100 : decode cX2_noteFigures 100 = .ok (.return_, 1) := by decide +kernel
theorem dX2_labelAt_0 : decode cX2_labelAt 0 = .ok (.iload_n 1, 1) := by decide +kernel
theorem dX2_labelAt_1 : decode cX2_labelAt 1 = .ok (.ifCond .lt 33, 3) := by decide +kernel
theorem dX2_labelAt_4 : decode cX2_labelAt 4 = .ok (.iload_n 1, 1) := by decide +kernel
theorem dX2_labelAt_5 : decode cX2_labelAt 5 = .ok (.bipush 16, 2) := by decide +kernel
theorem dX2_labelAt_7 : decode cX2_labelAt 7 = .ok (.if_icmp .ge 27, 3) := by decide +kernel
theorem dX2_labelAt_10 : decode cX2_labelAt 10 = .ok (.iload_n 2, 1) := by decide +kernel
theorem dX2_labelAt_11 : decode cX2_labelAt 11 = .ok (.ifCond .lt 23, 3) := by decide +kernel
theorem dX2_labelAt_14 : decode cX2_labelAt 14 = .ok (.iload_n 2, 1) := by decide +kernel
theorem dX2_labelAt_15 : decode cX2_labelAt 15 = .ok (.bipush 16, 2) := by decide +kernel
theorem dX2_labelAt_17 : decode cX2_labelAt 17 = .ok (.if_icmp .ge 17, 3) := by decide +kernel
theorem dX2_labelAt_20 : decode cX2_labelAt 20 = .ok (.aload_n 0, 1) := by decide +kernel
theorem dX2_labelAt_21 : decode cX2_labelAt 21 = .ok (.getfield 18, 3) := by decide +kernel
theorem dX2_labelAt_24 : decode cX2_labelAt 24 = .ok (.iload_n 2, 1) := by decide +kernel
theorem dX2_labelAt_25 : decode cX2_labelAt 25 = .ok (.bipush 16, 2) := by decide +kernel
theorem dX2_labelAt_27 : decode cX2_labelAt 27 = .ok (.imul, 1) := by decide +kernel
theorem dX2_labelAt_28 : decode cX2_labelAt 28 = .ok (.iload_n 1, 1) := by decide +kernel
theorem dX2_labelAt_29 : decode cX2_labelAt 29 = .ok (.iadd, 1) := by decide +kernel
theorem dX2_labelAt_30 : decode cX2_labelAt 30 = .ok (.iaload, 1) := by decide +kernel
theorem dX2_labelAt_31 : decode cX2_labelAt 31 = .ok (.goto 4, 3) := by decide +kernel
theorem dX2_labelAt_34 : decode cX2_labelAt 34 = .ok (.iconst (-1), 1) := by decide +kernel
theorem dX2_labelAt_35 : decode cX2_labelAt 35 = .ok (.ireturn, 1) := by decide +kernel
set_option maxRecDepth 20000 in
theorem ggX2_rowOfPart_X2_labelAt : GoodIn wsX2_rowOfPart wsX2_labelAt := goodIn_r _ [5, 6, 7, 8, 9, 10, 11] (by decide +kernel) (by decide +kernel)
set_option maxRecDepth 20000 in
theorem gX2_rowOfPart_X2_labelAt : GoodIn wsX2_rowOfPart (wsV RX2 65 RX2 yX2_labelAt wsX2_labelAt) := goodIn_app (goodIn_of _ (by decide +kernel)) ggX2_rowOfPart_X2_labelAt
theorem dX2_rowOfPart_0 : decode cX2_rowOfPart 0 = .ok (.iconst 0, 1) := by decide +kernel
theorem dX2_rowOfPart_1 : decode cX2_rowOfPart 1 = .ok (.istore_n 3, 1) := by decide +kernel
theorem dX2_rowOfPart_2 : decode cX2_rowOfPart 2 = .ok (.iconst 0, 1) := by decide +kernel
theorem dX2_rowOfPart_3 : decode cX2_rowOfPart 3 = .ok (.istore 4, 2) := by decide +kernel
theorem dX2_rowOfPart_5 : decode cX2_rowOfPart 5 = .ok (.iload 4, 2) := by decide +kernel
theorem dX2_rowOfPart_7 : decode cX2_rowOfPart 7 = .ok (.bipush 16, 2) := by decide +kernel
theorem dX2_rowOfPart_9 : decode cX2_rowOfPart 9 = .ok (.if_icmp .ge 27, 3) := by decide +kernel
theorem dX2_rowOfPart_12 : decode cX2_rowOfPart 12 = .ok (.aload_n 0, 1) := by decide +kernel
theorem dX2_rowOfPart_13 : decode cX2_rowOfPart 13 = .ok (.iload 4, 2) := by decide +kernel
theorem dX2_rowOfPart_15 : decode cX2_rowOfPart 15 = .ok (.iload_n 2, 1) := by decide +kernel
theorem dX2_rowOfPart_16 : decode cX2_rowOfPart 16 = .ok (.invokevirtual 65, 3) := by decide +kernel
theorem dX2_rowOfPart_19 : decode cX2_rowOfPart 19 = .ok (.iload_n 1, 1) := by decide +kernel
theorem dX2_rowOfPart_20 : decode cX2_rowOfPart 20 = .ok (.if_icmp .ne 10, 3) := by decide +kernel
theorem dX2_rowOfPart_23 : decode cX2_rowOfPart 23 = .ok (.iload_n 3, 1) := by decide +kernel
theorem dX2_rowOfPart_24 : decode cX2_rowOfPart 24 = .ok (.iconst 1, 1) := by decide +kernel
theorem dX2_rowOfPart_25 : decode cX2_rowOfPart 25 = .ok (.iload 4, 2) := by decide +kernel
theorem dX2_rowOfPart_27 : decode cX2_rowOfPart 27 = .ok (.ishl, 1) := by decide +kernel
theorem dX2_rowOfPart_28 : decode cX2_rowOfPart 28 = .ok (.ior, 1) := by decide +kernel
theorem dX2_rowOfPart_29 : decode cX2_rowOfPart 29 = .ok (.istore_n 3, 1) := by decide +kernel
theorem dX2_rowOfPart_30 : decode cX2_rowOfPart 30 = .ok (.iinc 4 1, 3) := by decide +kernel
theorem dX2_rowOfPart_33 : decode cX2_rowOfPart 33 = .ok (.goto (-28), 3) := by decide +kernel
theorem dX2_rowOfPart_36 : decode cX2_rowOfPart 36 = .ok (.iload_n 3, 1) := by decide +kernel
theorem dX2_rowOfPart_37 : decode cX2_rowOfPart 37 = .ok (.ireturn, 1) := by decide +kernel
set_option maxRecDepth 20000 in
theorem ggX2_figure_X5_within : GoodIn wsX2_figure wsX5_within := goodIn_r _ [5] (by decide +kernel) (by decide +kernel)
set_option maxRecDepth 20000 in
theorem gX2_figure_X5_within_n77 : GoodIn wsX2_figure (wsX5_within) := ggX2_figure_X5_within
theorem dX2_figure_0 : decode cX2_figure 0 = .ok (.iload_n 1, 1) := by decide +kernel
theorem dX2_figure_1 : decode cX2_figure 1 = .ok (.aload_n 0, 1) := by decide +kernel
theorem dX2_figure_2 : decode cX2_figure 2 = .ok (.getfield 28, 3) := by decide +kernel
theorem dX2_figure_5 : decode cX2_figure 5 = .ok (.invokestatic 77, 3) := by decide +kernel
theorem dX2_figure_8 : decode cX2_figure 8 = .ok (.ifCond .eq 26, 3) := by decide +kernel
theorem dX2_figure_11 : decode cX2_figure 11 = .ok (.iload_n 2, 1) := by decide +kernel
theorem dX2_figure_12 : decode cX2_figure 12 = .ok (.bipush 6, 2) := by decide +kernel
theorem dX2_figure_14 : decode cX2_figure 14 = .ok (.invokestatic 77, 3) := by decide +kernel
theorem dX2_figure_17 : decode cX2_figure 17 = .ok (.ifCond .eq 17, 3) := by decide +kernel
theorem dX2_figure_20 : decode cX2_figure 20 = .ok (.aload_n 0, 1) := by decide +kernel
theorem dX2_figure_21 : decode cX2_figure 21 = .ok (.getfield 25, 3) := by decide +kernel
theorem dX2_figure_24 : decode cX2_figure 24 = .ok (.iload_n 1, 1) := by decide +kernel
theorem dX2_figure_25 : decode cX2_figure 25 = .ok (.bipush 6, 2) := by decide +kernel
theorem dX2_figure_27 : decode cX2_figure 27 = .ok (.imul, 1) := by decide +kernel
theorem dX2_figure_28 : decode cX2_figure 28 = .ok (.iload_n 2, 1) := by decide +kernel
theorem dX2_figure_29 : decode cX2_figure 29 = .ok (.iadd, 1) := by decide +kernel
theorem dX2_figure_30 : decode cX2_figure 30 = .ok (.iaload, 1) := by decide +kernel
theorem dX2_figure_31 : decode cX2_figure 31 = .ok (.goto 5, 3) := by decide +kernel
theorem dX2_figure_34 : decode cX2_figure 34 = .ok (.bipush (-2), 2) := by decide +kernel
theorem dX2_figure_36 : decode cX2_figure 36 = .ok (.ireturn, 1) := by decide +kernel
set_option maxRecDepth 20000 in
theorem ggX2_partsOffTheEdge_X2_figure : GoodIn wsX2_partsOffTheEdge wsX2_figure := goodIn_r _ [6, 1, 7, 8, 9, 10, 11, 12, 13, 14, 15] (by decide +kernel) (by decide +kernel)
set_option maxRecDepth 20000 in
theorem gX2_partsOffTheEdge_X2_figure : GoodIn wsX2_partsOffTheEdge (wsV RX2 80 RX2 yX2_figure wsX2_figure) := goodIn_app (goodIn_of _ (by decide +kernel)) ggX2_partsOffTheEdge_X2_figure
theorem dX2_partsOffTheEdge_0 : decode cX2_partsOffTheEdge 0 = .ok (.iconst 0, 1) := by decide +kernel
theorem dX2_partsOffTheEdge_1 : decode cX2_partsOffTheEdge 1 = .ok (.istore_n 1, 1) := by decide +kernel
theorem dX2_partsOffTheEdge_2 : decode cX2_partsOffTheEdge 2 = .ok (.iconst 0, 1) := by decide +kernel
theorem dX2_partsOffTheEdge_3 : decode cX2_partsOffTheEdge 3 = .ok (.istore_n 2, 1) := by decide +kernel
theorem dX2_partsOffTheEdge_4 : decode cX2_partsOffTheEdge 4 = .ok (.iload_n 2, 1) := by decide +kernel
theorem dX2_partsOffTheEdge_5 : decode cX2_partsOffTheEdge 5 = .ok (.aload_n 0, 1) := by decide +kernel
theorem dX2_partsOffTheEdge_6 : decode cX2_partsOffTheEdge 6 = .ok (.getfield 28, 3) := by decide +kernel
theorem dX2_partsOffTheEdge_9 : decode cX2_partsOffTheEdge 9 = .ok (.if_icmp .ge 74, 3) := by decide +kernel
theorem dX2_partsOffTheEdge_12 : decode cX2_partsOffTheEdge 12 = .ok (.aload_n 0, 1) := by decide +kernel
theorem dX2_partsOffTheEdge_13 : decode cX2_partsOffTheEdge 13 = .ok (.iload_n 2, 1) := by decide +kernel
theorem dX2_partsOffTheEdge_14 : decode cX2_partsOffTheEdge 14 = .ok (.iconst 2, 1) := by decide +kernel
theorem dX2_partsOffTheEdge_15 : decode cX2_partsOffTheEdge 15 = .ok (.invokevirtual 80, 3) := by decide +kernel
theorem dX2_partsOffTheEdge_18 : decode cX2_partsOffTheEdge 18 = .ok (.ifCond .le 16, 3) := by decide +kernel
theorem dX2_partsOffTheEdge_21 : decode cX2_partsOffTheEdge 21 = .ok (.aload_n 0, 1) := by decide +kernel
theorem dX2_partsOffTheEdge_22 : decode cX2_partsOffTheEdge 22 = .ok (.iload_n 2, 1) := by decide +kernel
theorem dX2_partsOffTheEdge_23 : decode cX2_partsOffTheEdge 23 = .ok (.iconst 3, 1) := by decide +kernel
theorem dX2_partsOffTheEdge_24 : decode cX2_partsOffTheEdge 24 = .ok (.invokevirtual 80, 3) := by decide +kernel
theorem dX2_partsOffTheEdge_27 : decode cX2_partsOffTheEdge 27 = .ok (.ifCond .le 7, 3) := by decide +kernel
theorem dX2_partsOffTheEdge_30 : decode cX2_partsOffTheEdge 30 = .ok (.iconst 1, 1) := by decide +kernel
theorem dX2_partsOffTheEdge_31 : decode cX2_partsOffTheEdge 31 = .ok (.goto 4, 3) := by decide +kernel
theorem dX2_partsOffTheEdge_34 : decode cX2_partsOffTheEdge 34 = .ok (.iconst 0, 1) := by decide +kernel
theorem dX2_partsOffTheEdge_35 : decode cX2_partsOffTheEdge 35 = .ok (.istore_n 3, 1) := by decide +kernel
theorem dX2_partsOffTheEdge_36 : decode cX2_partsOffTheEdge 36 = .ok (.aload_n 0, 1) := by decide +kernel
theorem dX2_partsOffTheEdge_37 : decode cX2_partsOffTheEdge 37 = .ok (.iload_n 2, 1) := by decide +kernel
theorem dX2_partsOffTheEdge_38 : decode cX2_partsOffTheEdge 38 = .ok (.iconst 4, 1) := by decide +kernel
theorem dX2_partsOffTheEdge_39 : decode cX2_partsOffTheEdge 39 = .ok (.invokevirtual 80, 3) := by decide +kernel
theorem dX2_partsOffTheEdge_42 : decode cX2_partsOffTheEdge 42 = .ok (.bipush 15, 2) := by decide +kernel
theorem dX2_partsOffTheEdge_44 : decode cX2_partsOffTheEdge 44 = .ok (.if_icmp .ge 18, 3) := by decide +kernel
theorem dX2_partsOffTheEdge_47 : decode cX2_partsOffTheEdge 47 = .ok (.aload_n 0, 1) := by decide +kernel
theorem dX2_partsOffTheEdge_48 : decode cX2_partsOffTheEdge 48 = .ok (.iload_n 2, 1) := by decide +kernel
theorem dX2_partsOffTheEdge_49 : decode cX2_partsOffTheEdge 49 = .ok (.iconst 5, 1) := by decide +kernel
theorem dX2_partsOffTheEdge_50 : decode cX2_partsOffTheEdge 50 = .ok (.invokevirtual 80, 3) := by decide +kernel
theorem dX2_partsOffTheEdge_53 : decode cX2_partsOffTheEdge 53 = .ok (.bipush 15, 2) := by decide +kernel
theorem dX2_partsOffTheEdge_55 : decode cX2_partsOffTheEdge 55 = .ok (.if_icmp .ge 7, 3) := by decide +kernel
theorem dX2_partsOffTheEdge_58 : decode cX2_partsOffTheEdge 58 = .ok (.iconst 1, 1) := by decide +kernel
theorem dX2_partsOffTheEdge_59 : decode cX2_partsOffTheEdge 59 = .ok (.goto 4, 3) := by decide +kernel
theorem dX2_partsOffTheEdge_62 : decode cX2_partsOffTheEdge 62 = .ok (.iconst 0, 1) := by decide +kernel
theorem dX2_partsOffTheEdge_63 : decode cX2_partsOffTheEdge 63 = .ok (.istore 4, 2) := by decide +kernel
theorem dX2_partsOffTheEdge_65 : decode cX2_partsOffTheEdge 65 = .ok (.iload_n 3, 1) := by decide +kernel
theorem dX2_partsOffTheEdge_66 : decode cX2_partsOffTheEdge 66 = .ok (.ifCond .eq 11, 3) := by decide +kernel
theorem dX2_partsOffTheEdge_69 : decode cX2_partsOffTheEdge 69 = .ok (.iload 4, 2) := by decide +kernel
theorem dX2_partsOffTheEdge_71 : decode cX2_partsOffTheEdge 71 = .ok (.ifCond .eq 6, 3) := by decide +kernel
theorem dX2_partsOffTheEdge_74 : decode cX2_partsOffTheEdge 74 = .ok (.iinc 1 1, 3) := by decide +kernel
theorem dX2_partsOffTheEdge_77 : decode cX2_partsOffTheEdge 77 = .ok (.iinc 2 1, 3) := by decide +kernel
theorem dX2_partsOffTheEdge_80 : decode cX2_partsOffTheEdge 80 = .ok (.goto (-76), 3) := by decide +kernel
theorem dX2_partsOffTheEdge_83 : decode cX2_partsOffTheEdge 83 = .ok (.iload_n 1, 1) := by decide +kernel
theorem dX2_partsOffTheEdge_84 : decode cX2_partsOffTheEdge 84 = .ok (.ireturn, 1) := by decide +kernel
theorem dX3_init_0 : decode cX3_init 0 = .ok (.aload_n 0, 1) := by decide +kernel
theorem dX3_init_1 : decode cX3_init 1 = .ok (.invokespecial 3, 3) := by decide +kernel
theorem dX3_init_4 : decode cX3_init 4 = .ok (.aload_n 0, 1) := by decide +kernel
theorem dX3_init_5 : decode cX3_init 5 = .ok (.bipush 60, 2) := by decide +kernel
theorem dX3_init_7 : decode cX3_init 7 = .ok (.newarray .int, 2) := by decide +kernel
theorem dX3_init_9 : decode cX3_init 9 = .ok (.putfield 9, 3) := by decide +kernel
theorem dX3_init_12 : decode cX3_init 12 = .ok (.aload_n 0, 1) := by decide +kernel
theorem dX3_init_13 : decode cX3_init 13 = .ok (.iconst 1, 1) := by decide +kernel
theorem dX3_init_14 : decode cX3_init 14 = .ok (.putfield 15, 3) := by decide +kernel
theorem dX3_init_17 : decode cX3_init 17 = .ok (.aload_n 0, 1) := by decide +kernel
theorem dX3_init_18 : decode cX3_init 18 = .ok (.iconst 0, 1) := by decide +kernel
theorem dX3_init_19 : decode cX3_init 19 = .ok (.putfield 19, 3) := by decide +kernel
theorem dX3_init_22 : decode cX3_init 22 = .ok (.aload_n 0, 1) := by decide +kernel
theorem dX3_init_23 : decode cX3_init 23 = .ok (.iconst 0, 1) := by decide +kernel
theorem dX3_init_24 : decode cX3_init 24 = .ok (.putfield 23, 3) := by decide +kernel
theorem dX3_init_27 : decode cX3_init 27 = .ok (.return_, 1) := by decide +kernel
set_option maxRecDepth 20000 in
theorem ggX3_begin_J7_fill_53178 : GoodIn wsX3_begin wsJ7_fill_53178 := goodIn_r _ [8] (by decide +kernel) (by decide +kernel)
set_option maxRecDepth 20000 in
theorem gX3_begin_J7_fill_53178 : GoodIn wsX3_begin (va_wsS RX3 26 yJ7_fill_53178 wsJ7_fill_53178) := goodIn_app (goodIn_of _ (by decide +kernel)) ggX3_begin_J7_fill_53178
theorem dX3_begin_0 : decode cX3_begin 0 = .ok (.aload_n 0, 1) := by decide +kernel
theorem dX3_begin_1 : decode cX3_begin 1 = .ok (.iconst 0, 1) := by decide +kernel
theorem dX3_begin_2 : decode cX3_begin 2 = .ok (.putfield 15, 3) := by decide +kernel
theorem dX3_begin_5 : decode cX3_begin 5 = .ok (.aload_n 0, 1) := by decide +kernel
theorem dX3_begin_6 : decode cX3_begin 6 = .ok (.iload_n 1, 1) := by decide +kernel
theorem dX3_begin_7 : decode cX3_begin 7 = .ok (.putfield 19, 3) := by decide +kernel
theorem dX3_begin_10 : decode cX3_begin 10 = .ok (.aload_n 0, 1) := by decide +kernel
theorem dX3_begin_11 : decode cX3_begin 11 = .ok (.iload_n 2, 1) := by decide +kernel
theorem dX3_begin_12 : decode cX3_begin 12 = .ok (.putfield 23, 3) := by decide +kernel
theorem dX3_begin_15 : decode cX3_begin 15 = .ok (.aload_n 0, 1) := by decide +kernel
theorem dX3_begin_16 : decode cX3_begin 16 = .ok (.getfield 9, 3) := by decide +kernel
theorem dX3_begin_19 : decode cX3_begin 19 = .ok (.iconst 0, 1) := by decide +kernel
theorem dX3_begin_20 : decode cX3_begin 20 = .ok (.invokestatic 26, 3) := by decide +kernel
theorem dX3_begin_23 : decode cX3_begin 23 = .ok (.return_, 1) := by decide +kernel
set_option maxRecDepth 20000 in
theorem ggX3_item_X5_within : GoodIn wsX3_item wsX5_within := goodIn_r _ [5] (by decide +kernel) (by decide +kernel)
set_option maxRecDepth 20000 in
theorem gX3_item_X5_within_n32 : GoodIn wsX3_item (wsX5_within) := ggX3_item_X5_within
theorem dX3_item_0 : decode cX3_item 0 = .ok (.iload_n 1, 1) := by decide +kernel
theorem dX3_item_1 : decode cX3_item 1 = .ok (.aload_n 0, 1) := by decide +kernel
theorem dX3_item_2 : decode cX3_item 2 = .ok (.getfield 23, 3) := by decide +kernel
theorem dX3_item_5 : decode cX3_item 5 = .ok (.invokestatic 32, 3) := by decide +kernel
theorem dX3_item_8 : decode cX3_item 8 = .ok (.ifCond .eq 21, 3) := by decide +kernel
theorem dX3_item_11 : decode cX3_item 11 = .ok (.iload_n 1, 1) := by decide +kernel
theorem dX3_item_12 : decode cX3_item 12 = .ok (.bipush 60, 2) := by decide +kernel
theorem dX3_item_14 : decode cX3_item 14 = .ok (.invokestatic 32, 3) := by decide +kernel
theorem dX3_item_17 : decode cX3_item 17 = .ok (.ifCond .eq 12, 3) := by decide +kernel
theorem dX3_item_20 : decode cX3_item 20 = .ok (.aload_n 0, 1) := by decide +kernel
theorem dX3_item_21 : decode cX3_item 21 = .ok (.getfield 9, 3) := by decide +kernel
theorem dX3_item_24 : decode cX3_item 24 = .ok (.iload_n 1, 1) := by decide +kernel
theorem dX3_item_25 : decode cX3_item 25 = .ok (.iaload, 1) := by decide +kernel
theorem dX3_item_26 : decode cX3_item 26 = .ok (.goto 4, 3) := by decide +kernel
theorem dX3_item_29 : decode cX3_item 29 = .ok (.iconst 0, 1) := by decide +kernel
theorem dX3_item_30 : decode cX3_item 30 = .ok (.ireturn, 1) := by decide +kernel
set_option maxRecDepth 20000 in
theorem ggX3_setItem_X5_within : GoodIn wsX3_setItem wsX5_within := goodIn_r _ [5] (by decide +kernel) (by decide +kernel)
set_option maxRecDepth 20000 in
theorem gX3_setItem_X5_within_n32 : GoodIn wsX3_setItem (wsX5_within) := ggX3_setItem_X5_within
set_option maxRecDepth 20000 in
theorem ggX3_setItem_X3_narrowed : GoodIn wsX3_setItem wsX3_narrowed := goodIn_r _ [10, 11, 12, 13, 14, 15] (by decide +kernel) (by decide +kernel)
set_option maxRecDepth 20000 in
theorem gX3_setItem_X3_narrowed : GoodIn wsX3_setItem (wsV RX3 36 RX3 yX3_narrowed wsX3_narrowed) := goodIn_app (goodIn_of _ (by decide +kernel)) ggX3_setItem_X3_narrowed
theorem dX3_setItem_0 : decode cX3_setItem 0 = .ok (.iload_n 1, 1) := by decide +kernel
theorem dX3_setItem_1 : decode cX3_setItem 1 = .ok (.aload_n 0, 1) := by decide +kernel
theorem dX3_setItem_2 : decode cX3_setItem 2 = .ok (.getfield 23, 3) := by decide +kernel
theorem dX3_setItem_5 : decode cX3_setItem 5 = .ok (.invokestatic 32, 3) := by decide +kernel
theorem dX3_setItem_8 : decode cX3_setItem 8 = .ok (.ifCond .eq 23, 3) := by decide +kernel
theorem dX3_setItem_11 : decode cX3_setItem 11 = .ok (.iload_n 1, 1) := by decide +kernel
theorem dX3_setItem_12 : decode cX3_setItem 12 = .ok (.bipush 60, 2) := by decide +kernel
theorem dX3_setItem_14 : decode cX3_setItem 14 = .ok (.invokestatic 32, 3) := by decide +kernel
theorem dX3_setItem_17 : decode cX3_setItem 17 = .ok (.ifCond .eq 14, 3) := by decide +kernel
theorem dX3_setItem_20 : decode cX3_setItem 20 = .ok (.aload_n 0, 1) := by decide +kernel
theorem dX3_setItem_21 : decode cX3_setItem 21 = .ok (.getfield 9, 3) := by decide +kernel
theorem dX3_setItem_24 : decode cX3_setItem 24 = .ok (.iload_n 1, 1) := by decide +kernel
theorem dX3_setItem_25 : decode cX3_setItem 25 = .ok (.aload_n 0, 1) := by decide +kernel
theorem dX3_setItem_26 : decode cX3_setItem 26 = .ok (.iload_n 2, 1) := by decide +kernel
theorem dX3_setItem_27 : decode cX3_setItem 27 = .ok (.invokevirtual 36, 3) := by decide +kernel
theorem dX3_setItem_30 : decode cX3_setItem 30 = .ok (.iastore, 1) := by decide +kernel
theorem dX3_setItem_31 : decode cX3_setItem 31 = .ok (.return_, 1) := by decide +kernel
theorem dX3_narrowed_0 : decode cX3_narrowed 0 = .ok (.aload_n 0, 1) := by decide +kernel
theorem dX3_narrowed_1 : decode cX3_narrowed 1 = .ok (.getfield 19, 3) := by decide +kernel
theorem dX3_narrowed_4 : decode cX3_narrowed 4 = .ok (.ifCond .ne 6, 3) := by decide +kernel
theorem dX3_narrowed_7 : decode cX3_narrowed 7 = .ok (.iload_n 1, 1) := by decide +kernel
theorem dX3_narrowed_8 : decode cX3_narrowed 8 = .ok (.i2b, 1) := by decide +kernel
theorem dX3_narrowed_9 : decode cX3_narrowed 9 = .ok (.ireturn, 1) := by decide +kernel
theorem dX3_narrowed_10 : decode cX3_narrowed 10 = .ok (.aload_n 0, 1) := by decide +kernel
theorem dX3_narrowed_11 : decode cX3_narrowed 11 = .ok (.getfield 19, 3) := by decide +kernel
theorem dX3_narrowed_14 : decode cX3_narrowed 14 = .ok (.iconst 1, 1) := by decide +kernel
theorem dX3_narrowed_15 : decode cX3_narrowed 15 = .ok (.if_icmp .ne 8, 3) := by decide +kernel
theorem dX3_narrowed_18 : decode cX3_narrowed 18 = .ok (.iload_n 1, 1) := by decide +kernel
theorem dX3_narrowed_19 : decode cX3_narrowed 19 = .ok (.i2s, 1) := by decide +kernel
theorem dX3_narrowed_20 : decode cX3_narrowed 20 = .ok (.goto 4, 3) := by decide +kernel
theorem dX3_narrowed_23 : decode cX3_narrowed 23 = .ok (.iload_n 1, 1) := by decide +kernel
theorem dX3_narrowed_24 : decode cX3_narrowed 24 = .ok (.ireturn, 1) := by decide +kernel
theorem dX3_hasItems_0 : decode cX3_hasItems 0 = .ok (.iload_n 1, 1) := by decide +kernel
theorem dX3_hasItems_1 : decode cX3_hasItems 1 = .ok (.ifCond .lt 29, 3) := by decide +kernel
theorem dX3_hasItems_4 : decode cX3_hasItems 4 = .ok (.iload_n 2, 1) := by decide +kernel
theorem dX3_hasItems_5 : decode cX3_hasItems 5 = .ok (.ifCond .lt 25, 3) := by decide +kernel
theorem dX3_hasItems_8 : decode cX3_hasItems 8 = .ok (.iload_n 1, 1) := by decide +kernel
theorem dX3_hasItems_9 : decode cX3_hasItems 9 = .ok (.aload_n 0, 1) := by decide +kernel
theorem dX3_hasItems_10 : decode cX3_hasItems 10 = .ok (.getfield 23, 3) := by decide +kernel
theorem dX3_hasItems_13 : decode cX3_hasItems 13 = .ok (.if_icmp .gt 17, 3) := by decide +kernel
theorem dX3_hasItems_16 : decode cX3_hasItems 16 = .ok (.iload_n 2, 1) := by decide +kernel
theorem dX3_hasItems_17 : decode cX3_hasItems 17 = .ok (.aload_n 0, 1) := by decide +kernel
theorem dX3_hasItems_18 : decode cX3_hasItems 18 = .ok (.getfield 23, 3) := by decide +kernel
theorem dX3_hasItems_21 : decode cX3_hasItems 21 = .ok (.iload_n 1, 1) := by decide +kernel
theorem dX3_hasItems_22 : decode cX3_hasItems 22 = .ok (.isub, 1) := by decide +kernel
theorem dX3_hasItems_23 : decode cX3_hasItems 23 = .ok (.if_icmp .gt 7, 3) := by decide +kernel
theorem dX3_hasItems_26 : decode cX3_hasItems 26 = .ok (.iconst 1, 1) := by decide +kernel
theorem dX3_hasItems_27 : decode cX3_hasItems 27 = .ok (.goto 4, 3) := by decide +kernel
theorem dX3_hasItems_30 : decode cX3_hasItems 30 = .ok (.iconst 0, 1) := by decide +kernel
theorem dX3_hasItems_31 : decode cX3_hasItems 31 = .ok (.ireturn, 1) := by decide +kernel
set_option maxRecDepth 20000 in
theorem ggX4_init_X1_init : GoodIn wsX4_init wsX1_init := goodIn_r _ [15, 16, 2, 3, 8, 17, 18] (by decide +kernel) (by decide +kernel)
set_option maxRecDepth 20000 in
theorem gX4_init_X1_init_n11 : GoodIn wsX4_init (wsX1_init) := ggX4_init_X1_init
theorem dX4_init_0 : decode cX4_init 0 = .ok (.aload_n 0, 1) := by decide +kernel
theorem dX4_init_1 : decode cX4_init 1 = .ok (.invokespecial 3, 3) := by decide +kernel
theorem dX4_init_4 : decode cX4_init 4 = .ok (.aload_n 0, 1) := by decide +kernel
theorem dX4_init_5 : decode cX4_init 5 = .ok (.new 9, 3) := by decide +kernel
theorem dX4_init_8 : decode cX4_init 8 = .ok (.dup, 1) := by decide +kernel
theorem dX4_init_9 : decode cX4_init 9 = .ok (.invokespecial 11, 3) := by decide +kernel
theorem dX4_init_12 : decode cX4_init 12 = .ok (.putfield 12, 3) := by decide +kernel
theorem dX4_init_15 : decode cX4_init 15 = .ok (.aload_n 0, 1) := by decide +kernel
theorem dX4_init_16 : decode cX4_init 16 = .ok (.sipush 341, 3) := by decide +kernel
theorem dX4_init_19 : decode cX4_init 19 = .ok (.newarray .int, 2) := by decide +kernel
theorem dX4_init_21 : decode cX4_init 21 = .ok (.putfield 18, 3) := by decide +kernel
theorem dX4_init_24 : decode cX4_init 24 = .ok (.aload_n 0, 1) := by decide +kernel
theorem dX4_init_25 : decode cX4_init 25 = .ok (.iconst 1, 1) := by decide +kernel
theorem dX4_init_26 : decode cX4_init 26 = .ok (.putfield 22, 3) := by decide +kernel
theorem dX4_init_29 : decode cX4_init 29 = .ok (.aload_n 0, 1) := by decide +kernel
theorem dX4_init_30 : decode cX4_init 30 = .ok (.iconst 0, 1) := by decide +kernel
theorem dX4_init_31 : decode cX4_init 31 = .ok (.putfield 26, 3) := by decide +kernel
theorem dX4_init_34 : decode cX4_init 34 = .ok (.aload_n 0, 1) := by decide +kernel
theorem dX4_init_35 : decode cX4_init 35 = .ok (.iconst 0, 1) := by decide +kernel
theorem dX4_init_36 : decode cX4_init 36 = .ok (.putfield 29, 3) := by decide +kernel
theorem dX4_init_39 : decode cX4_init 39 = .ok (.aload_n 0, 1) := by decide +kernel
theorem dX4_init_40 : decode cX4_init 40 = .ok (.iconst 0, 1) := by decide +kernel
theorem dX4_init_41 : decode cX4_init 41 = .ok (.putfield 32, 3) := by decide +kernel
theorem dX4_init_44 : decode cX4_init 44 = .ok (.return_, 1) := by decide +kernel
set_option maxRecDepth 20000 in
theorem ggX4_look_X1_sameAs : GoodIn wsX4_look wsX1_sameAs := goodIn_r _ [10, 11, 46] (by decide +kernel) (by decide +kernel)
set_option maxRecDepth 20000 in
theorem gX4_look_X1_sameAs : GoodIn wsX4_look (wsV RX4 35 RX1 yX1_sameAs wsX1_sameAs) := goodIn_app (goodIn_of _ (by decide +kernel)) ggX4_look_X1_sameAs
set_option maxRecDepth 20000 in
theorem ggX4_look_X1_take : GoodIn wsX4_look wsX1_take := goodIn_r _ [15, 11, 46] (by decide +kernel) (by decide +kernel)
set_option maxRecDepth 20000 in
theorem gX4_look_X1_take : GoodIn wsX4_look (wsV RX4 39 RX1 yX1_take wsX1_take) := goodIn_app (goodIn_of _ (by decide +kernel)) ggX4_look_X1_take
set_option maxRecDepth 20000 in
theorem ggX4_look_X4_tellSquare : GoodIn wsX4_look wsX4_tellSquare := goodIn_r _ [19, 1, 4, 5, 20, 21, 22, 23, 24, 25, 26, 9, 27, 28, 29, 30, 31, 11, 32, 33, 34, 18, 35, 2, 36, 3, 37, 38, 39, 16, 17, 40, 41, 42, 43, 44, 45, 46] (by decide +kernel) (by decide +kernel)
set_option maxRecDepth 20000 in
theorem gX4_look_X4_tellSquare : GoodIn wsX4_look (va_wsS RX4 43 yX4_tellSquare wsX4_tellSquare) := goodIn_app (goodIn_of _ (by decide +kernel)) ggX4_look_X4_tellSquare
theorem dX4_look_0 : decode cX4_look 0 = .ok (.aload_n 0, 1) := by decide +kernel
theorem dX4_look_1 : decode cX4_look 1 = .ok (.getfield 12, 3) := by decide +kernel
theorem dX4_look_4 : decode cX4_look 4 = .ok (.aload_n 1, 1) := by decide +kernel
theorem dX4_look_5 : decode cX4_look 5 = .ok (.invokevirtual 35, 3) := by decide +kernel
theorem dX4_look_8 : decode cX4_look 8 = .ok (.ifCond .eq 4, 3) := by decide +kernel
theorem dX4_look_11 : decode cX4_look 11 = .ok (.return_, 1) := by decide +kernel
theorem dX4_look_12 : decode cX4_look 12 = .ok (.aload_n 0, 1) := by decide +kernel
theorem dX4_look_13 : decode cX4_look 13 = .ok (.getfield 12, 3) := by decide +kernel
theorem dX4_look_16 : decode cX4_look 16 = .ok (.aload_n 1, 1) := by decide +kernel
theorem dX4_look_17 : decode cX4_look 17 = .ok (.invokevirtual 39, 3) := by decide +kernel
theorem dX4_look_20 : decode cX4_look 20 = .ok (.aload_n 0, 1) := by decide +kernel
theorem dX4_look_21 : decode cX4_look 21 = .ok (.iconst 0, 1) := by decide +kernel
theorem dX4_look_22 : decode cX4_look 22 = .ok (.putfield 22, 3) := by decide +kernel
theorem dX4_look_25 : decode cX4_look 25 = .ok (.aload_n 0, 1) := by decide +kernel
theorem dX4_look_26 : decode cX4_look 26 = .ok (.iconst 0, 1) := by decide +kernel
theorem dX4_look_27 : decode cX4_look 27 = .ok (.putfield 26, 3) := by decide +kernel
theorem dX4_look_30 : decode cX4_look 30 = .ok (.aload_n 0, 1) := by decide +kernel
theorem dX4_look_31 : decode cX4_look 31 = .ok (.iconst 0, 1) := by decide +kernel
theorem dX4_look_32 : decode cX4_look 32 = .ok (.putfield 29, 3) := by decide +kernel
theorem dX4_look_35 : decode cX4_look 35 = .ok (.aload_n 0, 1) := by decide +kernel
theorem dX4_look_36 : decode cX4_look 36 = .ok (.iconst 0, 1) := by decide +kernel
theorem dX4_look_37 : decode cX4_look 37 = .ok (.putfield 32, 3) := by decide +kernel
theorem dX4_look_40 : decode cX4_look 40 = .ok (.aload_n 0, 1) := by decide +kernel
theorem dX4_look_41 : decode cX4_look 41 = .ok (.iconst 0, 1) := by decide +kernel
theorem dX4_look_42 : decode cX4_look 42 = .ok (.iconst 0, 1) := by decide +kernel
theorem dX4_look_43 : decode cX4_look 43 = .ok (.bipush 16, 2) := by decide +kernel
theorem dX4_look_45 : decode cX4_look 45 = .ok (.iconst 1, 1) := by decide +kernel
theorem dX4_look_46 : decode cX4_look 46 = .ok (.invokestatic 43, 3) := by decide +kernel
theorem dX4_look_49 : decode cX4_look 49 = .ok (.return_, 1) := by decide +kernel
set_option maxRecDepth 20000 in
theorem ggX4_tellSquare_X1_signOfSquare : GoodIn wsX4_tellSquare wsX1_signOfSquare := goodIn_r _ [12, 13, 14, 15, 11, 16, 17, 37] (by decide +kernel) (by decide +kernel)
set_option maxRecDepth 20000 in
theorem gX4_tellSquare_X1_signOfSquare : GoodIn wsX4_tellSquare (wsV RX4 47 RX1 yX1_signOfSquare wsX1_signOfSquare) := goodIn_app (goodIn_of _ (by decide +kernel)) ggX4_tellSquare_X1_signOfSquare
set_option maxRecDepth 20000 in
theorem ggX4_tellSquare_X4_addSign : GoodIn wsX4_tellSquare wsX4_addSign := goodIn_r _ [22, 23, 24, 25, 26, 27, 28, 31, 32, 33, 34, 35, 36] (by decide +kernel) (by decide +kernel)
set_option maxRecDepth 20000 in
theorem gX4_tellSquare_X4_addSign : GoodIn wsX4_tellSquare (wsV RX4 51 RX4 yX4_addSign wsX4_addSign) := goodIn_app (goodIn_of _ (by decide +kernel)) ggX4_tellSquare_X4_addSign
set_option maxRecDepth 20000 in
theorem ggX4_tellSquare_X4_tellSquare : GoodIn wsX4_tellSquare wsX4_tellSquare := goodIn_r _ [0, 1, 2, 3, 4, 5, 6, 7, 8, 9, 10, 11, 12, 13, 14, 15, 16, 17, 18, 19, 20, 21, 22, 23, 24, 25, 26, 27, 28, 29, 30, 31, 32, 33, 34, 35, 36, 37] (by decide +kernel) (by decide +kernel)
set_option maxRecDepth 20000 in
theorem gX4_tellSquare_X4_tellSquare : GoodIn wsX4_tellSquare (va_wsS RX4 43 yX4_tellSquare wsX4_tellSquare) := goodIn_app (goodIn_of _ (by decide +kernel)) ggX4_tellSquare_X4_tellSquare
theorem dX4_tellSquare_0 : decode cX4_tellSquare 0 = .ok (.aload_n 0, 1) := by decide +kernel
theorem dX4_tellSquare_1 : decode cX4_tellSquare 1 = .ok (.getfield 12, 3) := by decide +kernel
theorem dX4_tellSquare_4 : decode cX4_tellSquare 4 = .ok (.iload_n 1, 1) := by decide +kernel
theorem dX4_tellSquare_5 : decode cX4_tellSquare 5 = .ok (.iload_n 2, 1) := by decide +kernel
theorem dX4_tellSquare_6 : decode cX4_tellSquare 6 = .ok (.iload_n 3, 1) := by decide +kernel
theorem dX4_tellSquare_7 : decode cX4_tellSquare 7 = .ok (.invokevirtual 47, 3) := by decide +kernel
theorem dX4_tellSquare_10 : decode cX4_tellSquare 10 = .ok (.istore 5, 2) := by decide +kernel
theorem dX4_tellSquare_12 : decode cX4_tellSquare 12 = .ok (.aload_n 0, 1) := by decide +kernel
theorem dX4_tellSquare_13 : decode cX4_tellSquare 13 = .ok (.iload 5, 2) := by decide +kernel
theorem dX4_tellSquare_15 : decode cX4_tellSquare 15 = .ok (.invokevirtual 51, 3) := by decide +kernel
theorem dX4_tellSquare_18 : decode cX4_tellSquare 18 = .ok (.iload 5, 2) := by decide +kernel
theorem dX4_tellSquare_20 : decode cX4_tellSquare 20 = .ok (.iconst 2, 1) := by decide +kernel
theorem dX4_tellSquare_21 : decode cX4_tellSquare 21 = .ok (.if_icmp .ne 8, 3) := by decide +kernel
theorem dX4_tellSquare_24 : decode cX4_tellSquare 24 = .ok (.iload_n 3, 1) := by decide +kernel
theorem dX4_tellSquare_25 : decode cX4_tellSquare 25 = .ok (.iconst 1, 1) := by decide +kernel
theorem dX4_tellSquare_26 : decode cX4_tellSquare 26 = .ok (.if_icmp .gt 4, 3) := by decide +kernel
theorem dX4_tellSquare_29 : decode cX4_tellSquare 29 = .ok (.return_, 1) := by decide +kernel
theorem dX4_tellSquare_30 : decode cX4_tellSquare 30 = .ok (.aload_n 0, 1) := by decide +kernel
theorem dX4_tellSquare_31 : decode cX4_tellSquare 31 = .ok (.dup, 1) := by decide +kernel
theorem dX4_tellSquare_32 : decode cX4_tellSquare 32 = .ok (.getfield 29, 3) := by decide +kernel
theorem dX4_tellSquare_35 : decode cX4_tellSquare 35 = .ok (.iconst 1, 1) := by decide +kernel
theorem dX4_tellSquare_36 : decode cX4_tellSquare 36 = .ok (.iadd, 1) := by decide +kernel
theorem dX4_tellSquare_37 : decode cX4_tellSquare 37 = .ok (.putfield 29, 3) := by decide +kernel
theorem dX4_tellSquare_40 : decode cX4_tellSquare 40 = .ok (.aload_n 0, 1) := by decide +kernel
theorem dX4_tellSquare_41 : decode cX4_tellSquare 41 = .ok (.aload_n 0, 1) := by decide +kernel
theorem dX4_tellSquare_42 : decode cX4_tellSquare 42 = .ok (.getfield 32, 3) := by decide +kernel
theorem dX4_tellSquare_45 : decode cX4_tellSquare 45 = .ok (.iload 4, 2) := by decide +kernel
theorem dX4_tellSquare_47 : decode cX4_tellSquare 47 = .ok (.invokestatic 55, 3) := by decide +kernel
theorem dX4_tellSquare_50 : decode cX4_tellSquare 50 = .ok (.putfield 32, 3) := by decide +kernel
theorem dX4_tellSquare_53 : decode cX4_tellSquare 53 = .ok (.iload_n 3, 1) := by decide +kernel
theorem dX4_tellSquare_54 : decode cX4_tellSquare 54 = .ok (.iconst 2, 1) := by decide +kernel
theorem dX4_tellSquare_55 : decode cX4_tellSquare 55 = .ok (.idiv, 1) := by decide +kernel
theorem dX4_tellSquare_56 : decode cX4_tellSquare 56 = .ok (.istore 6, 2) := by decide +kernel
theorem dX4_tellSquare_58 : decode cX4_tellSquare 58 = .ok (.iconst 0, 1) := by decide +kernel
theorem dX4_tellSquare_59 : decode cX4_tellSquare 59 = .ok (.istore 7, 2) := by decide +kernel
theorem dX4_tellSquare_61 : decode cX4_tellSquare 61 = .ok (.iload 7, 2) := by decide +kernel
theorem dX4_tellSquare_63 : decode cX4_tellSquare 63 = .ok (.iconst 4, 1) := by decide +kernel
theorem dX4_tellSquare_64 : decode cX4_tellSquare 64 = .ok (.if_icmp .ge 37, 3) := by decide +kernel
theorem dX4_tellSquare_67 : decode cX4_tellSquare 67 = .ok (.aload_n 0, 1) := by decide +kernel
theorem dX4_tellSquare_68 : decode cX4_tellSquare 68 = .ok (.iload_n 1, 1) := by decide +kernel
theorem dX4_tellSquare_69 : decode cX4_tellSquare 69 = .ok (.iload 7, 2) := by decide +kernel
theorem dX4_tellSquare_71 : decode cX4_tellSquare 71 = .ok (.iconst 2, 1) := by decide +kernel
theorem dX4_tellSquare_72 : decode cX4_tellSquare 72 = .ok (.irem, 1) := by decide +kernel
theorem dX4_tellSquare_73 : decode cX4_tellSquare 73 = .ok (.iload 6, 2) := by decide +kernel
theorem dX4_tellSquare_75 : decode cX4_tellSquare 75 = .ok (.imul, 1) := by decide +kernel
theorem dX4_tellSquare_76 : decode cX4_tellSquare 76 = .ok (.iadd, 1) := by decide +kernel
theorem dX4_tellSquare_77 : decode cX4_tellSquare 77 = .ok (.iload_n 2, 1) := by decide +kernel
theorem dX4_tellSquare_78 : decode cX4_tellSquare 78 = .ok (.iload 7, 2) := by decide +kernel
theorem dX4_tellSquare_80 : decode cX4_tellSquare 80 = .ok (.iconst 2, 1) := by decide +kernel
theorem dX4_tellSquare_81 : decode cX4_tellSquare 81 = .ok (.idiv, 1) := by decide +kernel
theorem dX4_tellSquare_82 : decode cX4_tellSquare 82 = .ok (.iload 6, 2) := by decide +kernel
theorem dX4_tellSquare_84 : decode cX4_tellSquare 84 = .ok (.imul, 1) := by decide +kernel
theorem dX4_tellSquare_85 : decode cX4_tellSquare 85 = .ok (.iadd, 1) := by decide +kernel
theorem dX4_tellSquare_86 : decode cX4_tellSquare 86 = .ok (.iload 6, 2) := by decide +kernel
theorem dX4_tellSquare_88 : decode cX4_tellSquare 88 = .ok (.iload 4, 2) := by decide +kernel
theorem dX4_tellSquare_90 : decode cX4_tellSquare 90 = .ok (.iconst 1, 1) := by decide +kernel
theorem dX4_tellSquare_91 : decode cX4_tellSquare 91 = .ok (.iadd, 1) := by decide +kernel
theorem dX4_tellSquare_92 : decode cX4_tellSquare 92 = .ok (.invokestatic 43, 3) := by decide +kernel
theorem dX4_tellSquare_95 : decode cX4_tellSquare 95 = .ok (.iinc 7 1, 3) := by decide +kernel
theorem dX4_tellSquare_98 : decode cX4_tellSquare 98 = .ok (.goto (-37), 3) := by decide +kernel
theorem dX4_tellSquare_101 : decode cX4_tellSquare 101 = .ok (.return_, 1) := by decide +kernel
set_option maxRecDepth 20000 in
theorem ggX4_addSign_X5_within : GoodIn wsX4_addSign wsX5_within := goodIn_r _ [6] (by decide +kernel) (by decide +kernel)
set_option maxRecDepth 20000 in
theorem gX4_addSign_X5_within_n61 : GoodIn wsX4_addSign (wsX5_within) := ggX4_addSign_X5_within
theorem dX4_addSign_0 : decode cX4_addSign 0 = .ok (.aload_n 0, 1) := by decide +kernel
theorem dX4_addSign_1 : decode cX4_addSign 1 = .ok (.getfield 22, 3) := by decide +kernel
theorem dX4_addSign_4 : decode cX4_addSign 4 = .ok (.sipush 341, 3) := by decide +kernel
theorem dX4_addSign_7 : decode cX4_addSign 7 = .ok (.invokestatic 61, 3) := by decide +kernel
theorem dX4_addSign_10 : decode cX4_addSign 10 = .ok (.ifCond .eq 23, 3) := by decide +kernel
theorem dX4_addSign_13 : decode cX4_addSign 13 = .ok (.aload_n 0, 1) := by decide +kernel
theorem dX4_addSign_14 : decode cX4_addSign 14 = .ok (.getfield 18, 3) := by decide +kernel
theorem dX4_addSign_17 : decode cX4_addSign 17 = .ok (.aload_n 0, 1) := by decide +kernel
theorem dX4_addSign_18 : decode cX4_addSign 18 = .ok (.getfield 22, 3) := by decide +kernel
theorem dX4_addSign_21 : decode cX4_addSign 21 = .ok (.iload_n 1, 1) := by decide +kernel
theorem dX4_addSign_22 : decode cX4_addSign 22 = .ok (.iastore, 1) := by decide +kernel
theorem dX4_addSign_23 : decode cX4_addSign 23 = .ok (.aload_n 0, 1) := by decide +kernel
theorem dX4_addSign_24 : decode cX4_addSign 24 = .ok (.dup, 1) := by decide +kernel
theorem dX4_addSign_25 : decode cX4_addSign 25 = .ok (.getfield 22, 3) := by decide +kernel
theorem dX4_addSign_28 : decode cX4_addSign 28 = .ok (.iconst 1, 1) := by decide +kernel
theorem dX4_addSign_29 : decode cX4_addSign 29 = .ok (.iadd, 1) := by decide +kernel
theorem dX4_addSign_30 : decode cX4_addSign 30 = .ok (.putfield 22, 3) := by decide +kernel
theorem dX4_addSign_33 : decode cX4_addSign 33 = .ok (.iload_n 1, 1) := by decide +kernel
theorem dX4_addSign_34 : decode cX4_addSign 34 = .ok (.iconst 1, 1) := by decide +kernel
theorem dX4_addSign_35 : decode cX4_addSign 35 = .ok (.if_icmp .ne 13, 3) := by decide +kernel
theorem dX4_addSign_38 : decode cX4_addSign 38 = .ok (.aload_n 0, 1) := by decide +kernel
theorem dX4_addSign_39 : decode cX4_addSign 39 = .ok (.dup, 1) := by decide +kernel
theorem dX4_addSign_40 : decode cX4_addSign 40 = .ok (.getfield 26, 3) := by decide +kernel
theorem dX4_addSign_43 : decode cX4_addSign 43 = .ok (.iconst 1, 1) := by decide +kernel
theorem dX4_addSign_44 : decode cX4_addSign 44 = .ok (.iadd, 1) := by decide +kernel
theorem dX4_addSign_45 : decode cX4_addSign 45 = .ok (.putfield 26, 3) := by decide +kernel
theorem dX4_addSign_48 : decode cX4_addSign 48 = .ok (.return_, 1) := by decide +kernel
set_option maxRecDepth 20000 in
theorem ggX4_sign_X5_within : GoodIn wsX4_sign wsX5_within := goodIn_r _ [5] (by decide +kernel) (by decide +kernel)
set_option maxRecDepth 20000 in
theorem gX4_sign_X5_within_n61 : GoodIn wsX4_sign (wsX5_within) := ggX4_sign_X5_within
theorem dX4_sign_0 : decode cX4_sign 0 = .ok (.iload_n 1, 1) := by decide +kernel
theorem dX4_sign_1 : decode cX4_sign 1 = .ok (.aload_n 0, 1) := by decide +kernel
theorem dX4_sign_2 : decode cX4_sign 2 = .ok (.getfield 22, 3) := by decide +kernel
theorem dX4_sign_5 : decode cX4_sign 5 = .ok (.invokestatic 61, 3) := by decide +kernel
theorem dX4_sign_8 : decode cX4_sign 8 = .ok (.ifCond .eq 22, 3) := by decide +kernel
theorem dX4_sign_11 : decode cX4_sign 11 = .ok (.iload_n 1, 1) := by decide +kernel
theorem dX4_sign_12 : decode cX4_sign 12 = .ok (.sipush 341, 3) := by decide +kernel
theorem dX4_sign_15 : decode cX4_sign 15 = .ok (.invokestatic 61, 3) := by decide +kernel
theorem dX4_sign_18 : decode cX4_sign 18 = .ok (.ifCond .eq 12, 3) := by decide +kernel
theorem dX4_sign_21 : decode cX4_sign 21 = .ok (.aload_n 0, 1) := by decide +kernel
theorem dX4_sign_22 : decode cX4_sign 22 = .ok (.getfield 18, 3) := by decide +kernel
theorem dX4_sign_25 : decode cX4_sign 25 = .ok (.iload_n 1, 1) := by decide +kernel
theorem dX4_sign_26 : decode cX4_sign 26 = .ok (.iaload, 1) := by decide +kernel
theorem dX4_sign_27 : decode cX4_sign 27 = .ok (.goto 4, 3) := by decide +kernel
theorem dX4_sign_30 : decode cX4_sign 30 = .ok (.iconst (-1), 1) := by decide +kernel
theorem dX4_sign_31 : decode cX4_sign 31 = .ok (.ireturn, 1) := by decide +kernel
