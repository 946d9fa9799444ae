set_option maxRecDepth 20000 in
theorem ggX6_pick_X6_isMask : GoodIn wsX6_pick wsX6_isMask := goodIn_r _ [5, 6, 7, 8, 4, 9] (by decide +kernel) (by decide +kernel)
set_option maxRecDepth 20000 in
theorem gX6_pick_X6_isMask : GoodIn wsX6_pick (va_wsS RX6 103 yX6_isMask wsX6_isMask) := goodIn_app (goodIn_of _ (by decide +kernel)) ggX6_pick_X6_isMask
set_option maxRecDepth 20000 in
theorem ggX6_pick_X6_isCell : GoodIn wsX6_pick wsX6_isCell := goodIn_r _ [12, 13, 7, 8, 4, 9] (by decide +kernel) (by decide +kernel)
set_option maxRecDepth 20000 in
theorem gX6_pick_X6_isCell : GoodIn wsX6_pick (va_wsS RX6 86 yX6_isCell wsX6_isCell) := goodIn_app (goodIn_of _ (by decide +kernel)) ggX6_pick_X6_isCell
set_option maxRecDepth 20000 in
theorem ggX6_pick_X6_dark : GoodIn wsX6_pick wsX6_dark := goodIn_r _ [17, 18, 10, 11, 4, 12, 13, 7, 8, 9, 53, 54, 55, 56, 57, 58, 59, 60, 61, 62, 63, 64, 65, 66, 67, 68, 69, 70, 71, 72, 73] (by decide +kernel) (by decide +kernel)
set_option maxRecDepth 20000 in
theorem gX6_pick_X6_dark : GoodIn wsX6_pick (wsV RX6 90 RX6 yX6_dark wsX6_dark) := goodIn_app (goodIn_of _ (by decide +kernel)) ggX6_pick_X6_dark
set_option maxRecDepth 20000 in
theorem ggX6_pick_X6_labels : GoodIn wsX6_pick wsX6_labels := goodIn_r _ [22, 23, 1, 14, 15, 16, 4, 17, 18, 10, 11, 12, 13, 7, 8, 9, 24, 25, 26, 27, 28, 53, 54, 55, 56, 57, 58, 59, 60, 61, 62, 63, 64, 65, 66, 67, 68, 69, 70, 71, 72, 73] (by decide +kernel) (by decide +kernel)
set_option maxRecDepth 20000 in
theorem gX6_pick_X6_labels : GoodIn wsX6_pick (wsV RX6 150 RX6 yX6_labels wsX6_labels) := goodIn_app (goodIn_of _ (by decide +kernel)) ggX6_pick_X6_labels
set_option maxRecDepth 20000 in
theorem ggX6_pick_X6_clears : GoodIn wsX6_pick wsX6_clears := goodIn_r _ [32, 33, 53, 54, 55, 56, 57, 58, 59, 60, 61, 62, 63, 64, 65, 66, 67, 68, 69, 70, 71, 72, 73] (by decide +kernel) (by decide +kernel)
set_option maxRecDepth 20000 in
theorem gX6_pick_X6_clears : GoodIn wsX6_pick (wsV RX6 133 RX6 yX6_clears wsX6_clears) := goodIn_app (goodIn_of _ (by decide +kernel)) ggX6_pick_X6_clears
set_option maxRecDepth 20000 in
theorem ggX6_pick_X6_sets : GoodIn wsX6_pick wsX6_sets := goodIn_r _ [37, 33, 53, 54, 55, 56, 57, 58, 59, 60, 61, 62, 63, 64, 65, 66, 67, 68, 69, 70, 71, 72, 73] (by decide +kernel) (by decide +kernel)
set_option maxRecDepth 20000 in
theorem gX6_pick_X6_sets : GoodIn wsX6_pick (wsV RX6 114 RX6 yX6_sets wsX6_sets) := goodIn_app (goodIn_of _ (by decide +kernel)) ggX6_pick_X6_sets
set_option maxRecDepth 20000 in
theorem ggX6_pick_X6_become : GoodIn wsX6_pick wsX6_become := goodIn_r _ [41, 42, 43, 44, 4, 45, 46, 47, 48, 18, 33, 49, 50, 51, 52, 14, 15, 16, 17, 10, 11, 12, 13, 7, 8, 9, 53, 54, 55, 56, 57, 58, 59, 60, 61, 62, 63, 64, 65, 66, 67, 68, 69, 70, 71, 72, 73] (by decide +kernel) (by decide +kernel)
set_option maxRecDepth 20000 in
theorem gX6_pick_X6_become : GoodIn wsX6_pick (wsV RX6 118 RX6 yX6_become wsX6_become) := goodIn_app (goodIn_of _ (by decide +kernel)) ggX6_pick_X6_become
theorem dX6_pick_0 : decode cX6_pick 0 = .ok (.iload_n 1, 1) := by decide +kernel
theorem dX6_pick_1 : decode cX6_pick 1 = .ok (.invokestatic 103, 3) := by decide +kernel
theorem dX6_pick_4 : decode cX6_pick 4 = .ok (.ifCond .eq 19, 3) := by decide +kernel
theorem dX6_pick_7 : decode cX6_pick 7 = .ok (.iload_n 2, 1) := by decide +kernel
theorem dX6_pick_8 : decode cX6_pick 8 = .ok (.iload_n 3, 1) := by decide +kernel
theorem dX6_pick_9 : decode cX6_pick 9 = .ok (.invokestatic 86, 3) := by decide +kernel
theorem dX6_pick_12 : decode cX6_pick 12 = .ok (.ifCond .eq 11, 3) := by decide +kernel
theorem dX6_pick_15 : decode cX6_pick 15 = .ok (.iload 4, 2) := by decide +kernel
theorem dX6_pick_17 : decode cX6_pick 17 = .ok (.invokestatic 103, 3) := by decide +kernel
theorem dX6_pick_20 : decode cX6_pick 20 = .ok (.ifCond .ne 6, 3) := by decide +kernel
theorem dX6_pick_23 : decode cX6_pick 23 = .ok (.bipush (-2), 2) := by decide +kernel
theorem dX6_pick_25 : decode cX6_pick 25 = .ok (.ireturn, 1) := by decide +kernel
theorem dX6_pick_26 : decode cX6_pick 26 = .ok (.aload_n 0, 1) := by decide +kernel
theorem dX6_pick_27 : decode cX6_pick 27 = .ok (.iload_n 1, 1) := by decide +kernel
theorem dX6_pick_28 : decode cX6_pick 28 = .ok (.iload_n 2, 1) := by decide +kernel
theorem dX6_pick_29 : decode cX6_pick 29 = .ok (.iload_n 3, 1) := by decide +kernel
theorem dX6_pick_30 : decode cX6_pick 30 = .ok (.invokevirtual 90, 3) := by decide +kernel
theorem dX6_pick_33 : decode cX6_pick 33 = .ok (.ifCond .ne 6, 3) := by decide +kernel
theorem dX6_pick_36 : decode cX6_pick 36 = .ok (.bipush (-3), 2) := by decide +kernel
theorem dX6_pick_38 : decode cX6_pick 38 = .ok (.ireturn, 1) := by decide +kernel
theorem dX6_pick_39 : decode cX6_pick 39 = .ok (.aload_n 0, 1) := by decide +kernel
theorem dX6_pick_40 : decode cX6_pick 40 = .ok (.iload_n 1, 1) := by decide +kernel
theorem dX6_pick_41 : decode cX6_pick 41 = .ok (.iconst 1, 1) := by decide +kernel
theorem dX6_pick_42 : decode cX6_pick 42 = .ok (.invokevirtual 150, 3) := by decide +kernel
theorem dX6_pick_45 : decode cX6_pick 45 = .ok (.aload_n 0, 1) := by decide +kernel
theorem dX6_pick_46 : decode cX6_pick 46 = .ok (.invokevirtual 133, 3) := by decide +kernel
theorem dX6_pick_49 : decode cX6_pick 49 = .ok (.iconst 0, 1) := by decide +kernel
theorem dX6_pick_50 : decode cX6_pick 50 = .ok (.istore 5, 2) := by decide +kernel
theorem dX6_pick_52 : decode cX6_pick 52 = .ok (.iload 5, 2) := by decide +kernel
theorem dX6_pick_54 : decode cX6_pick 54 = .ok (.sipush 256, 3) := by decide +kernel
theorem dX6_pick_57 : decode cX6_pick 57 = .ok (.if_icmp .ge 49, 3) := by decide +kernel
theorem dX6_pick_60 : decode cX6_pick 60 = .ok (.aload_n 0, 1) := by decide +kernel
theorem dX6_pick_61 : decode cX6_pick 61 = .ok (.iload 5, 2) := by decide +kernel
theorem dX6_pick_63 : decode cX6_pick 63 = .ok (.bipush 16, 2) := by decide +kernel
theorem dX6_pick_65 : decode cX6_pick 65 = .ok (.irem, 1) := by decide +kernel
theorem dX6_pick_66 : decode cX6_pick 66 = .ok (.iload 5, 2) := by decide +kernel
theorem dX6_pick_68 : decode cX6_pick 68 = .ok (.bipush 16, 2) := by decide +kernel
theorem dX6_pick_70 : decode cX6_pick 70 = .ok (.idiv, 1) := by decide +kernel
theorem dX6_pick_71 : decode cX6_pick 71 = .ok (.aload_n 0, 1) := by decide +kernel
theorem dX6_pick_72 : decode cX6_pick 72 = .ok (.getfield 34, 3) := by decide +kernel
theorem dX6_pick_75 : decode cX6_pick 75 = .ok (.iload 5, 2) := by decide +kernel
theorem dX6_pick_77 : decode cX6_pick 77 = .ok (.iaload, 1) := by decide +kernel
theorem dX6_pick_78 : decode cX6_pick 78 = .ok (.aload_n 0, 1) := by decide +kernel
theorem dX6_pick_79 : decode cX6_pick 79 = .ok (.getfield 34, 3) := by decide +kernel
theorem dX6_pick_82 : decode cX6_pick 82 = .ok (.bipush 16, 2) := by decide +kernel
theorem dX6_pick_84 : decode cX6_pick 84 = .ok (.iload_n 3, 1) := by decide +kernel
theorem dX6_pick_85 : decode cX6_pick 85 = .ok (.imul, 1) := by decide +kernel
theorem dX6_pick_86 : decode cX6_pick 86 = .ok (.iload_n 2, 1) := by decide +kernel
theorem dX6_pick_87 : decode cX6_pick 87 = .ok (.iadd, 1) := by decide +kernel
theorem dX6_pick_88 : decode cX6_pick 88 = .ok (.iaload, 1) := by decide +kernel
theorem dX6_pick_89 : decode cX6_pick 89 = .ok (.if_icmp .ne 7, 3) := by decide +kernel
theorem dX6_pick_92 : decode cX6_pick 92 = .ok (.iconst 1, 1) := by decide +kernel
theorem dX6_pick_93 : decode cX6_pick 93 = .ok (.goto 4, 3) := by decide +kernel
theorem dX6_pick_96 : decode cX6_pick 96 = .ok (.iconst 0, 1) := by decide +kernel
theorem dX6_pick_97 : decode cX6_pick 97 = .ok (.invokevirtual 114, 3) := by decide +kernel
theorem dX6_pick_100 : decode cX6_pick 100 = .ok (.iinc 5 1, 3) := by decide +kernel
theorem dX6_pick_103 : decode cX6_pick 103 = .ok (.goto (-51), 3) := by decide +kernel
theorem dX6_pick_106 : decode cX6_pick 106 = .ok (.aload_n 0, 1) := by decide +kernel
theorem dX6_pick_107 : decode cX6_pick 107 = .ok (.iload 4, 2) := by decide +kernel
theorem dX6_pick_109 : decode cX6_pick 109 = .ok (.invokevirtual 118, 3) := by decide +kernel
theorem dX6_pick_112 : decode cX6_pick 112 = .ok (.ireturn, 1) := by decide +kernel
theorem dX6_later_0 : decode cX6_later 0 = .ok (.aload_n 0, 1) := by decide +kernel
theorem dX6_later_1 : decode cX6_later 1 = .ok (.getfield 40, 3) := by decide +kernel
theorem dX6_later_4 : decode cX6_later 4 = .ok (.aload_n 0, 1) := by decide +kernel
theorem dX6_later_5 : decode cX6_later 5 = .ok (.getfield 154, 3) := by decide +kernel
theorem dX6_later_8 : decode cX6_later 8 = .ok (.iload_n 1, 1) := by decide +kernel
theorem dX6_later_9 : decode cX6_later 9 = .ok (.iastore, 1) := by decide +kernel
theorem dX6_later_10 : decode cX6_later 10 = .ok (.aload_n 0, 1) := by decide +kernel
theorem dX6_later_11 : decode cX6_later 11 = .ok (.getfield 43, 3) := by decide +kernel
theorem dX6_later_14 : decode cX6_later 14 = .ok (.aload_n 0, 1) := by decide +kernel
theorem dX6_later_15 : decode cX6_later 15 = .ok (.getfield 154, 3) := by decide +kernel
theorem dX6_later_18 : decode cX6_later 18 = .ok (.iload_n 2, 1) := by decide +kernel
theorem dX6_later_19 : decode cX6_later 19 = .ok (.iastore, 1) := by decide +kernel
theorem dX6_later_20 : decode cX6_later 20 = .ok (.aload_n 0, 1) := by decide +kernel
theorem dX6_later_21 : decode cX6_later 21 = .ok (.getfield 46, 3) := by decide +kernel
theorem dX6_later_24 : decode cX6_later 24 = .ok (.aload_n 0, 1) := by decide +kernel
theorem dX6_later_25 : decode cX6_later 25 = .ok (.getfield 154, 3) := by decide +kernel
theorem dX6_later_28 : decode cX6_later 28 = .ok (.iload_n 3, 1) := by decide +kernel
theorem dX6_later_29 : decode cX6_later 29 = .ok (.iastore, 1) := by decide +kernel
theorem dX6_later_30 : decode cX6_later 30 = .ok (.aload_n 0, 1) := by decide +kernel
theorem dX6_later_31 : decode cX6_later 31 = .ok (.dup, 1) := by decide +kernel
theorem dX6_later_32 : decode cX6_later 32 = .ok (.getfield 154, 3) := by decide +kernel
theorem dX6_later_35 : decode cX6_later 35 = .ok (.iconst 1, 1) := by decide +kernel
theorem dX6_later_36 : decode cX6_later 36 = .ok (.iadd, 1) := by decide +kernel
theorem dX6_later_37 : decode cX6_later 37 = .ok (.putfield 154, 3) := by decide +kernel
theorem dX6_later_40 : decode cX6_later 40 = .ok (.return_, 1) := by decide +kernel
set_option maxRecDepth 20000 in
theorem ggX6_quarters_X6_later : GoodIn wsX6_quarters wsX6_later := goodIn_r _ [5, 6, 7, 8, 9, 10, 11, 12, 13, 14, 15, 16, 17, 18, 19, 20, 21, 22, 23, 24, 25, 26, 27, 28, 29, 30] (by decide +kernel) (by decide +kernel)
set_option maxRecDepth 20000 in
theorem gX6_quarters_X6_later : GoodIn wsX6_quarters (wsV RX6 157 RX6 yX6_later wsX6_later) := goodIn_app (goodIn_of _ (by decide +kernel)) ggX6_quarters_X6_later
theorem dX6_quarters_0 : decode cX6_quarters 0 = .ok (.iload_n 3, 1) := by decide +kernel
theorem dX6_quarters_1 : decode cX6_quarters 1 = .ok (.iconst 2, 1) := by decide +kernel
theorem dX6_quarters_2 : decode cX6_quarters 2 = .ok (.idiv, 1) := by decide +kernel
theorem dX6_quarters_3 : decode cX6_quarters 3 = .ok (.istore 4, 2) := by decide +kernel
theorem dX6_quarters_5 : decode cX6_quarters 5 = .ok (.aload_n 0, 1) := by decide +kernel
theorem dX6_quarters_6 : decode cX6_quarters 6 = .ok (.iload_n 1, 1) := by decide +kernel
theorem dX6_quarters_7 : decode cX6_quarters 7 = .ok (.iload 4, 2) := by decide +kernel
theorem dX6_quarters_9 : decode cX6_quarters 9 = .ok (.iadd, 1) := by decide +kernel
theorem dX6_quarters_10 : decode cX6_quarters 10 = .ok (.iload_n 2, 1) := by decide +kernel
theorem dX6_quarters_11 : decode cX6_quarters 11 = .ok (.iload 4, 2) := by decide +kernel
theorem dX6_quarters_13 : decode cX6_quarters 13 = .ok (.iadd, 1) := by decide +kernel
theorem dX6_quarters_14 : decode cX6_quarters 14 = .ok (.iload 4, 2) := by decide +kernel
theorem dX6_quarters_16 : decode cX6_quarters 16 = .ok (.invokevirtual 157, 3) := by decide +kernel
theorem dX6_quarters_19 : decode cX6_quarters 19 = .ok (.aload_n 0, 1) := by decide +kernel
theorem dX6_quarters_20 : decode cX6_quarters 20 = .ok (.iload_n 1, 1) := by decide +kernel
theorem dX6_quarters_21 : decode cX6_quarters 21 = .ok (.iload_n 2, 1) := by decide +kernel
theorem dX6_quarters_22 : decode cX6_quarters 22 = .ok (.iload 4, 2) := by decide +kernel
theorem dX6_quarters_24 : decode cX6_quarters 24 = .ok (.iadd, 1) := by decide +kernel
theorem dX6_quarters_25 : decode cX6_quarters 25 = .ok (.iload 4, 2) := by decide +kernel
theorem dX6_quarters_27 : decode cX6_quarters 27 = .ok (.invokevirtual 157, 3) := by decide +kernel
theorem dX6_quarters_30 : decode cX6_quarters 30 = .ok (.aload_n 0, 1) := by decide +kernel
theorem dX6_quarters_31 : decode cX6_quarters 31 = .ok (.iload_n 1, 1) := by decide +kernel
theorem dX6_quarters_32 : decode cX6_quarters 32 = .ok (.iload 4, 2) := by decide +kernel
theorem dX6_quarters_34 : decode cX6_quarters 34 = .ok (.iadd, 1) := by decide +kernel
theorem dX6_quarters_35 : decode cX6_quarters 35 = .ok (.iload_n 2, 1) := by decide +kernel
theorem dX6_quarters_36 : decode cX6_quarters 36 = .ok (.iload 4, 2) := by decide +kernel
theorem dX6_quarters_38 : decode cX6_quarters 38 = .ok (.invokevirtual 157, 3) := by decide +kernel
theorem dX6_quarters_41 : decode cX6_quarters 41 = .ok (.aload_n 0, 1) := by decide +kernel
theorem dX6_quarters_42 : decode cX6_quarters 42 = .ok (.iload_n 1, 1) := by decide +kernel
theorem dX6_quarters_43 : decode cX6_quarters 43 = .ok (.iload_n 2, 1) := by decide +kernel
theorem dX6_quarters_44 : decode cX6_quarters 44 = .ok (.iload 4, 2) := by decide +kernel
theorem dX6_quarters_46 : decode cX6_quarters 46 = .ok (.invokevirtual 157, 3) := by decide +kernel
theorem dX6_quarters_49 : decode cX6_quarters 49 = .ok (.return_, 1) := by decide +kernel
set_option maxRecDepth 20000 in
theorem ggX6_takes_X6_clears : GoodIn wsX6_takes wsX6_clears := goodIn_r _ [12, 13, 29, 30, 31, 32, 33, 34, 35, 36, 37, 38, 39, 40, 41, 42, 43, 44, 45, 46, 47, 48, 49] (by decide +kernel) (by decide +kernel)
set_option maxRecDepth 20000 in
theorem gX6_takes_X6_clears : GoodIn wsX6_takes (wsV RX6 133 RX6 yX6_clears wsX6_clears) := goodIn_app (goodIn_of _ (by decide +kernel)) ggX6_takes_X6_clears
set_option maxRecDepth 20000 in
theorem ggX6_takes_X6_later : GoodIn wsX6_takes wsX6_later := goodIn_r _ [17, 2, 1, 3, 4, 29, 30, 31, 32, 33, 34, 35, 36, 37, 38, 39, 40, 41, 42, 43, 44, 45, 46, 47, 48, 49] (by decide +kernel) (by decide +kernel)
set_option maxRecDepth 20000 in
theorem gX6_takes_X6_later : GoodIn wsX6_takes (wsV RX6 157 RX6 yX6_later wsX6_later) := goodIn_app (goodIn_of _ (by decide +kernel)) ggX6_takes_X6_later
set_option maxRecDepth 20000 in
theorem ggX6_takes_X6_in : GoodIn wsX6_takes wsX6_in := goodIn_r _ [20] (by decide +kernel) (by decide +kernel)
set_option maxRecDepth 20000 in
theorem gX6_takes_X6_in : GoodIn wsX6_takes (va_wsS RX6 55 yX6_in wsX6_in) := goodIn_app (goodIn_of _ (by decide +kernel)) ggX6_takes_X6_in
set_option maxRecDepth 20000 in
theorem ggX6_takes_X6_quarters : GoodIn wsX6_takes wsX6_quarters := goodIn_r _ [24, 14, 15, 16, 11, 17, 2, 1, 3, 4, 29, 30, 31, 32, 33, 34, 35, 36, 37, 38, 39, 40, 41, 42, 43, 44, 45, 46, 47, 48, 49] (by decide +kernel) (by decide +kernel)
set_option maxRecDepth 20000 in
theorem gX6_takes_X6_quarters : GoodIn wsX6_takes (wsV RX6 160 RX6 yX6_quarters wsX6_quarters) := goodIn_app (goodIn_of _ (by decide +kernel)) ggX6_takes_X6_quarters
set_option maxRecDepth 20000 in
theorem ggX6_takes_X6_sets : GoodIn wsX6_takes wsX6_sets := goodIn_r _ [28, 13, 29, 30, 31, 32, 33, 34, 35, 36, 37, 38, 39, 40, 41, 42, 43, 44, 45, 46, 47, 48, 49] (by decide +kernel) (by decide +kernel)
set_option maxRecDepth 20000 in
theorem gX6_takes_X6_sets : GoodIn wsX6_takes (wsV RX6 114 RX6 yX6_sets wsX6_sets) := goodIn_app (goodIn_of _ (by decide +kernel)) ggX6_takes_X6_sets
theorem dX6_takes_0 : decode cX6_takes 0 = .ok (.aload_n 0, 1) := by decide +kernel
theorem dX6_takes_1 : decode cX6_takes 1 = .ok (.invokevirtual 133, 3) := by decide +kernel
theorem dX6_takes_4 : decode cX6_takes 4 = .ok (.aload_n 0, 1) := by decide +kernel
theorem dX6_takes_5 : decode cX6_takes 5 = .ok (.iconst 0, 1) := by decide +kernel
theorem dX6_takes_6 : decode cX6_takes 6 = .ok (.putfield 154, 3) := by decide +kernel
theorem dX6_takes_9 : decode cX6_takes 9 = .ok (.aload_n 0, 1) := by decide +kernel
theorem dX6_takes_10 : decode cX6_takes 10 = .ok (.iconst 0, 1) := by decide +kernel
theorem dX6_takes_11 : decode cX6_takes 11 = .ok (.iconst 0, 1) := by decide +kernel
theorem dX6_takes_12 : decode cX6_takes 12 = .ok (.bipush 16, 2) := by decide +kernel
theorem dX6_takes_14 : decode cX6_takes 14 = .ok (.invokevirtual 157, 3) := by decide +kernel
theorem dX6_takes_17 : decode cX6_takes 17 = .ok (.iconst 0, 1) := by decide +kernel
theorem dX6_takes_18 : decode cX6_takes 18 = .ok (.istore_n 2, 1) := by decide +kernel
theorem dX6_takes_19 : decode cX6_takes 19 = .ok (.aload_n 0, 1) := by decide +kernel
theorem dX6_takes_20 : decode cX6_takes 20 = .ok (.getfield 154, 3) := by decide +kernel
theorem dX6_takes_23 : decode cX6_takes 23 = .ok (.ifCond .le 166, 3) := by decide +kernel
theorem dX6_takes_26 : decode cX6_takes 26 = .ok (.aload_n 0, 1) := by decide +kernel
theorem dX6_takes_27 : decode cX6_takes 27 = .ok (.dup, 1) := by decide +kernel
theorem dX6_takes_28 : decode cX6_takes 28 = .ok (.getfield 154, 3) := by decide +kernel
theorem dX6_takes_31 : decode cX6_takes 31 = .ok (.iconst 1, 1) := by decide +kernel
theorem dX6_takes_32 : decode cX6_takes 32 = .ok (.isub, 1) := by decide +kernel
theorem dX6_takes_33 : decode cX6_takes 33 = .ok (.putfield 154, 3) := by decide +kernel
theorem dX6_takes_36 : decode cX6_takes 36 = .ok (.aload_n 0, 1) := by decide +kernel
theorem dX6_takes_37 : decode cX6_takes 37 = .ok (.getfield 40, 3) := by decide +kernel
theorem dX6_takes_40 : decode cX6_takes 40 = .ok (.aload_n 0, 1) := by decide +kernel
theorem dX6_takes_41 : decode cX6_takes 41 = .ok (.getfield 154, 3) := by decide +kernel
theorem dX6_takes_44 : decode cX6_takes 44 = .ok (.iaload, 1) := by decide +kernel
theorem dX6_takes_45 : decode cX6_takes 45 = .ok (.istore_n 3, 1) := by decide +kernel
theorem dX6_takes_46 : decode cX6_takes 46 = .ok (.aload_n 0, 1) := by decide +kernel
theorem dX6_takes_47 : decode cX6_takes 47 = .ok (.getfield 43, 3) := by decide +kernel
theorem dX6_takes_50 : decode cX6_takes 50 = .ok (.aload_n 0, 1) := by decide +kernel
theorem dX6_takes_51 : decode cX6_takes 51 = .ok (.getfield 154, 3) := by decide +kernel
theorem dX6_takes_54 : decode cX6_takes 54 = .ok (.iaload, 1) := by decide +kernel
theorem dX6_takes_55 : decode cX6_takes 55 = .ok (.istore 4, 2) := by decide +kernel
theorem dX6_takes_57 : decode cX6_takes 57 = .ok (.aload_n 0, 1) := by decide +kernel
theorem dX6_takes_58 : decode cX6_takes 58 = .ok (.getfield 46, 3) := by decide +kernel
theorem dX6_takes_61 : decode cX6_takes 61 = .ok (.aload_n 0, 1) := by decide +kernel
theorem dX6_takes_62 : decode cX6_takes 62 = .ok (.getfield 154, 3) := by decide +kernel
theorem dX6_takes_65 : decode cX6_takes 65 = .ok (.iaload, 1) := by decide +kernel
theorem dX6_takes_66 : decode cX6_takes 66 = .ok (.istore 5, 2) := by decide +kernel
theorem dX6_takes_68 : decode cX6_takes 68 = .ok (.iload_n 2, 1) := by decide +kernel
theorem dX6_takes_69 : decode cX6_takes 69 = .ok (.aload_n 0, 1) := by decide +kernel
theorem dX6_takes_70 : decode cX6_takes 70 = .ok (.getfield 13, 3) := by decide +kernel
theorem dX6_takes_73 : decode cX6_takes 73 = .ok (.iload_n 1, 1) := by decide +kernel
theorem dX6_takes_74 : decode cX6_takes 74 = .ok (.iaload, 1) := by decide +kernel
theorem dX6_takes_75 : decode cX6_takes 75 = .ok (.if_icmp .ge 17, 3) := by decide +kernel
theorem dX6_takes_78 : decode cX6_takes 78 = .ok (.aload_n 0, 1) := by decide +kernel
theorem dX6_takes_79 : decode cX6_takes 79 = .ok (.getfield 16, 3) := by decide +kernel
theorem dX6_takes_82 : decode cX6_takes 82 = .ok (.bipush 60, 2) := by decide +kernel
theorem dX6_takes_84 : decode cX6_takes 84 = .ok (.iload_n 1, 1) := by decide +kernel
theorem dX6_takes_85 : decode cX6_takes 85 = .ok (.imul, 1) := by decide +kernel
theorem dX6_takes_86 : decode cX6_takes 86 = .ok (.iload_n 2, 1) := by decide +kernel
theorem dX6_takes_87 : decode cX6_takes 87 = .ok (.iadd, 1) := by decide +kernel
theorem dX6_takes_88 : decode cX6_takes 88 = .ok (.iaload, 1) := by decide +kernel
theorem dX6_takes_89 : decode cX6_takes 89 = .ok (.goto 4, 3) := by decide +kernel
theorem dX6_takes_92 : decode cX6_takes 92 = .ok (.iconst (-1), 1) := by decide +kernel
theorem dX6_takes_93 : decode cX6_takes 93 = .ok (.istore 6, 2) := by decide +kernel
theorem dX6_takes_95 : decode cX6_takes 95 = .ok (.iload 6, 2) := by decide +kernel
theorem dX6_takes_97 : decode cX6_takes 97 = .ok (.i2l, 1) := by decide +kernel
theorem dX6_takes_98 : decode cX6_takes 98 = .ok (.lconst 0, 1) := by decide +kernel
theorem dX6_takes_99 : decode cX6_takes 99 = .ok (.ldc2_w 69, 3) := by decide +kernel
theorem dX6_takes_102 : decode cX6_takes 102 = .ok (.invokestatic 55, 3) := by decide +kernel
theorem dX6_takes_105 : decode cX6_takes 105 = .ok (.ifCond .eq 15, 3) := by decide +kernel
theorem dX6_takes_108 : decode cX6_takes 108 = .ok (.iload 6, 2) := by decide +kernel
theorem dX6_takes_110 : decode cX6_takes 110 = .ok (.iconst 2, 1) := by decide +kernel
theorem dX6_takes_111 : decode cX6_takes 111 = .ok (.if_icmp .ne 11, 3) := by decide +kernel
theorem dX6_takes_114 : decode cX6_takes 114 = .ok (.iload 5, 2) := by decide +kernel
theorem dX6_takes_116 : decode cX6_takes 116 = .ok (.iconst 1, 1) := by decide +kernel
theorem dX6_takes_117 : decode cX6_takes 117 = .ok (.if_icmp .ne 5, 3) := by decide +kernel
theorem dX6_takes_120 : decode cX6_takes 120 = .ok (.iconst (-1), 1) := by decide +kernel
theorem dX6_takes_121 : decode cX6_takes 121 = .ok (.ireturn, 1) := by decide +kernel
theorem dX6_takes_122 : decode cX6_takes 122 = .ok (.iinc 2 1, 3) := by decide +kernel
theorem dX6_takes_125 : decode cX6_takes 125 = .ok (.iload 6, 2) := by decide +kernel
theorem dX6_takes_127 : decode cX6_takes 127 = .ok (.iconst 2, 1) := by decide +kernel
theorem dX6_takes_128 : decode cX6_takes 128 = .ok (.if_icmp .ne 12, 3) := by decide +kernel
theorem dX6_takes_131 : decode cX6_takes 131 = .ok (.aload_n 0, 1) := by decide +kernel
theorem dX6_takes_132 : decode cX6_takes 132 = .ok (.iload_n 3, 1) := by decide +kernel
theorem dX6_takes_133 : decode cX6_takes 133 = .ok (.iload 4, 2) := by decide +kernel
theorem dX6_takes_135 : decode cX6_takes 135 = .ok (.iload 5, 2) := by decide +kernel
theorem dX6_takes_137 : decode cX6_takes 137 = .ok (.invokevirtual 160, 3) := by decide +kernel
theorem dX6_takes_140 : decode cX6_takes 140 = .ok (.iconst 0, 1) := by decide +kernel
theorem dX6_takes_141 : decode cX6_takes 141 = .ok (.istore 7, 2) := by decide +kernel
theorem dX6_takes_143 : decode cX6_takes 143 = .ok (.iload 7, 2) := by decide +kernel
theorem dX6_takes_145 : decode cX6_takes 145 = .ok (.iload 5, 2) := by decide +kernel
theorem dX6_takes_147 : decode cX6_takes 147 = .ok (.iload 5, 2) := by decide +kernel
theorem dX6_takes_149 : decode cX6_takes 149 = .ok (.imul, 1) := by decide +kernel
theorem dX6_takes_150 : decode cX6_takes 150 = .ok (.if_icmp .ge 36, 3) := by decide +kernel
theorem dX6_takes_153 : decode cX6_takes 153 = .ok (.iload 6, 2) := by decide +kernel
theorem dX6_takes_155 : decode cX6_takes 155 = .ok (.iconst 2, 1) := by decide +kernel
theorem dX6_takes_156 : decode cX6_takes 156 = .ok (.if_icmp .ge 30, 3) := by decide +kernel
theorem dX6_takes_159 : decode cX6_takes 159 = .ok (.aload_n 0, 1) := by decide +kernel
theorem dX6_takes_160 : decode cX6_takes 160 = .ok (.iload_n 3, 1) := by decide +kernel
theorem dX6_takes_161 : decode cX6_takes 161 = .ok (.iload 7, 2) := by decide +kernel
theorem dX6_takes_163 : decode cX6_takes 163 = .ok (.iload 5, 2) := by decide +kernel
theorem dX6_takes_165 : decode cX6_takes 165 = .ok (.irem, 1) := by decide +kernel
theorem dX6_takes_166 : decode cX6_takes 166 = .ok (.iadd, 1) := by decide +kernel
theorem dX6_takes_167 : decode cX6_takes 167 = .ok (.iload 4, 2) := by decide +kernel
theorem dX6_takes_169 : decode cX6_takes 169 = .ok (.iload 7, 2) := by decide +kernel
theorem dX6_takes_171 : decode cX6_takes 171 = .ok (.iload 5, 2) := by decide +kernel
theorem dX6_takes_173 : decode cX6_takes 173 = .ok (.idiv, 1) := by decide +kernel
theorem dX6_takes_174 : decode cX6_takes 174 = .ok (.iadd, 1) := by decide +kernel
theorem dX6_takes_175 : decode cX6_takes 175 = .ok (.iload 6, 2) := by decide +kernel
theorem dX6_takes_177 : decode cX6_takes 177 = .ok (.invokevirtual 114, 3) := by decide +kernel
theorem dX6_takes_180 : decode cX6_takes 180 = .ok (.iinc 7 1, 3) := by decide +kernel
theorem dX6_takes_183 : decode cX6_takes 183 = .ok (.goto (-40), 3) := by decide +kernel
theorem dX6_takes_186 : decode cX6_takes 186 = .ok (.goto (-167), 3) := by decide +kernel
theorem dX6_takes_189 : decode cX6_takes 189 = .ok (.iload_n 2, 1) := by decide +kernel
theorem dX6_takes_190 : decode cX6_takes 190 = .ok (.ireturn, 1) := by decide +kernel
set_option maxRecDepth 20000 in
theorem ggX6_read_X6_isMask : GoodIn wsX6_read wsX6_isMask := goodIn_r _ [5, 6, 7, 8, 4, 9] (by decide +kernel) (by decide +kernel)
set_option maxRecDepth 20000 in
theorem gX6_read_X6_isMask : GoodIn wsX6_read (va_wsS RX6 103 yX6_isMask wsX6_isMask) := goodIn_app (goodIn_of _ (by decide +kernel)) ggX6_read_X6_isMask
set_option maxRecDepth 20000 in
theorem ggX6_read_X6_isSheet : GoodIn wsX6_read wsX6_isSheet := goodIn_r _ [12, 6, 7, 8, 4, 9] (by decide +kernel) (by decide +kernel)
set_option maxRecDepth 20000 in
theorem gX6_read_X6_isSheet : GoodIn wsX6_read (va_wsS RX6 65 yX6_isSheet wsX6_isSheet) := goodIn_app (goodIn_of _ (by decide +kernel)) ggX6_read_X6_isSheet
set_option maxRecDepth 20000 in
theorem ggX6_read_X6_finds : GoodIn wsX6_read wsX6_finds := goodIn_r _ [16, 17, 54, 55, 56, 57, 58, 59, 60, 61, 62, 63, 64, 65, 66, 67, 68, 69, 70, 71, 72, 73, 74] (by decide +kernel) (by decide +kernel)
set_option maxRecDepth 20000 in
theorem gX6_read_X6_finds : GoodIn wsX6_read (wsV RX6 71 RX6 yX6_finds wsX6_finds) := goodIn_app (goodIn_of _ (by decide +kernel)) ggX6_read_X6_finds
set_option maxRecDepth 20000 in
theorem ggX6_read_X6_takes : GoodIn wsX6_read wsX6_takes := goodIn_r _ [21, 22, 23, 24, 25, 26, 27, 28, 29, 30, 31, 4, 32, 33, 34, 35, 36, 37, 7, 8, 9, 38, 39, 40, 41, 42, 43, 44, 45, 54, 55, 56, 57, 58, 59, 60, 61, 62, 63, 64, 65, 66, 67, 68, 69, 70, 71, 72, 73, 74] (by decide +kernel) (by decide +kernel)
set_option maxRecDepth 20000 in
theorem gX6_read_X6_takes : GoodIn wsX6_read (wsV RX6 163 RX6 yX6_takes wsX6_takes) := goodIn_app (goodIn_of _ (by decide +kernel)) ggX6_read_X6_takes
set_option maxRecDepth 20000 in
theorem ggX6_read_X6_becomes : GoodIn wsX6_read wsX6_becomes := goodIn_r _ [49, 50, 51, 52, 53, 33, 54, 55, 56, 57, 58, 59, 60, 61, 62, 63, 64, 65, 66, 67, 68, 69, 70, 71, 72, 73, 74] (by decide +kernel) (by decide +kernel)
set_option maxRecDepth 20000 in
theorem gX6_read_X6_becomes : GoodIn wsX6_read (wsV RX6 96 RX6 yX6_becomes wsX6_becomes) := goodIn_app (goodIn_of _ (by decide +kernel)) ggX6_read_X6_becomes
theorem dX6_read_0 : decode cX6_read 0 = .ok (.iload_n 1, 1) := by decide +kernel
theorem dX6_read_1 : decode cX6_read 1 = .ok (.invokestatic 103, 3) := by decide +kernel
theorem dX6_read_4 : decode cX6_read 4 = .ok (.ifCond .eq 10, 3) := by decide +kernel
theorem dX6_read_7 : decode cX6_read 7 = .ok (.iload_n 2, 1) := by decide +kernel
theorem dX6_read_8 : decode cX6_read 8 = .ok (.invokestatic 65, 3) := by decide +kernel
theorem dX6_read_11 : decode cX6_read 11 = .ok (.ifCond .ne 6, 3) := by decide +kernel
theorem dX6_read_14 : decode cX6_read 14 = .ok (.bipush (-2), 2) := by decide +kernel
theorem dX6_read_16 : decode cX6_read 16 = .ok (.ireturn, 1) := by decide +kernel
theorem dX6_read_17 : decode cX6_read 17 = .ok (.aload_n 0, 1) := by decide +kernel
theorem dX6_read_18 : decode cX6_read 18 = .ok (.getfield 7, 3) := by decide +kernel
theorem dX6_read_21 : decode cX6_read 21 = .ok (.iload_n 2, 1) := by decide +kernel
theorem dX6_read_22 : decode cX6_read 22 = .ok (.iaload, 1) := by decide +kernel
theorem dX6_read_23 : decode cX6_read 23 = .ok (.ifCond .ge 9, 3) := by decide +kernel
theorem dX6_read_26 : decode cX6_read 26 = .ok (.aload_n 0, 1) := by decide +kernel
theorem dX6_read_27 : decode cX6_read 27 = .ok (.iconst 1, 1) := by decide +kernel
theorem dX6_read_28 : decode cX6_read 28 = .ok (.invokevirtual 71, 3) := by decide +kernel
theorem dX6_read_31 : decode cX6_read 31 = .ok (.ireturn, 1) := by decide +kernel
theorem dX6_read_32 : decode cX6_read 32 = .ok (.aload_n 0, 1) := by decide +kernel
theorem dX6_read_33 : decode cX6_read 33 = .ok (.iload_n 2, 1) := by decide +kernel
theorem dX6_read_34 : decode cX6_read 34 = .ok (.invokevirtual 163, 3) := by decide +kernel
theorem dX6_read_37 : decode cX6_read 37 = .ok (.istore_n 3, 1) := by decide +kernel
theorem dX6_read_38 : decode cX6_read 38 = .ok (.iload_n 3, 1) := by decide +kernel
theorem dX6_read_39 : decode cX6_read 39 = .ok (.iconst (-1), 1) := by decide +kernel
theorem dX6_read_40 : decode cX6_read 40 = .ok (.if_icmp .ne 6, 3) := by decide +kernel
theorem dX6_read_43 : decode cX6_read 43 = .ok (.bipush (-3), 2) := by decide +kernel
theorem dX6_read_45 : decode cX6_read 45 = .ok (.ireturn, 1) := by decide +kernel
theorem dX6_read_46 : decode cX6_read 46 = .ok (.aload_n 0, 1) := by decide +kernel
theorem dX6_read_47 : decode cX6_read 47 = .ok (.iload_n 1, 1) := by decide +kernel
theorem dX6_read_48 : decode cX6_read 48 = .ok (.invokevirtual 96, 3) := by decide +kernel
theorem dX6_read_51 : decode cX6_read 51 = .ok (.iload_n 3, 1) := by decide +kernel
theorem dX6_read_52 : decode cX6_read 52 = .ok (.ireturn, 1) := by decide +kernel
theorem dX6_back_0 : decode cX6_back 0 = .ok (.aload_n 0, 1) := by decide +kernel
theorem dX6_back_1 : decode cX6_back 1 = .ok (.getfield 93, 3) := by decide +kernel
theorem dX6_back_4 : decode cX6_back 4 = .ok (.ifCond .ne 6, 3) := by decide +kernel
theorem dX6_back_7 : decode cX6_back 7 = .ok (.bipush (-3), 2) := by decide +kernel
theorem dX6_back_9 : decode cX6_back 9 = .ok (.ireturn, 1) := by decide +kernel
theorem dX6_back_10 : decode cX6_back 10 = .ok (.aload_n 0, 1) := by decide +kernel
theorem dX6_back_11 : decode cX6_back 11 = .ok (.dup, 1) := by decide +kernel
theorem dX6_back_12 : decode cX6_back 12 = .ok (.getfield 93, 3) := by decide +kernel
theorem dX6_back_15 : decode cX6_back 15 = .ok (.iconst 1, 1) := by decide +kernel
theorem dX6_back_16 : decode cX6_back 16 = .ok (.isub, 1) := by decide +kernel
theorem dX6_back_17 : decode cX6_back 17 = .ok (.putfield 93, 3) := by decide +kernel
theorem dX6_back_20 : decode cX6_back 20 = .ok (.iconst 0, 1) := by decide +kernel
theorem dX6_back_21 : decode cX6_back 21 = .ok (.istore_n 1, 1) := by decide +kernel
theorem dX6_back_22 : decode cX6_back 22 = .ok (.iload_n 1, 1) := by decide +kernel
theorem dX6_back_23 : decode cX6_back 23 = .ok (.bipush 16, 2) := by decide +kernel
theorem dX6_back_25 : decode cX6_back 25 = .ok (.if_icmp .ge 42, 3) := by decide +kernel
theorem dX6_back_28 : decode cX6_back 28 = .ok (.aload_n 0, 1) := by decide +kernel
theorem dX6_back_29 : decode cX6_back 29 = .ok (.getfield 22, 3) := by decide +kernel
theorem dX6_back_32 : decode cX6_back 32 = .ok (.bipush 16, 2) := by decide +kernel
theorem dX6_back_34 : decode cX6_back 34 = .ok (.aload_n 0, 1) := by decide +kernel
theorem dX6_back_35 : decode cX6_back 35 = .ok (.getfield 28, 3) := by decide +kernel
theorem dX6_back_38 : decode cX6_back 38 = .ok (.aload_n 0, 1) := by decide +kernel
theorem dX6_back_39 : decode cX6_back 39 = .ok (.getfield 93, 3) := by decide +kernel
theorem dX6_back_42 : decode cX6_back 42 = .ok (.iaload, 1) := by decide +kernel
theorem dX6_back_43 : decode cX6_back 43 = .ok (.imul, 1) := by decide +kernel
theorem dX6_back_44 : decode cX6_back 44 = .ok (.iload_n 1, 1) := by decide +kernel
theorem dX6_back_45 : decode cX6_back 45 = .ok (.iadd, 1) := by decide +kernel
theorem dX6_back_46 : decode cX6_back 46 = .ok (.aload_n 0, 1) := by decide +kernel
theorem dX6_back_47 : decode cX6_back 47 = .ok (.getfield 31, 3) := by decide +kernel
theorem dX6_back_50 : decode cX6_back 50 = .ok (.bipush 16, 2) := by decide +kernel
theorem dX6_back_52 : decode cX6_back 52 = .ok (.aload_n 0, 1) := by decide +kernel
theorem dX6_back_53 : decode cX6_back 53 = .ok (.getfield 93, 3) := by decide +kernel
theorem dX6_back_56 : decode cX6_back 56 = .ok (.imul, 1) := by decide +kernel
theorem dX6_back_57 : decode cX6_back 57 = .ok (.iload_n 1, 1) := by decide +kernel
theorem dX6_back_58 : decode cX6_back 58 = .ok (.iadd, 1) := by decide +kernel
theorem dX6_back_59 : decode cX6_back 59 = .ok (.iaload, 1) := by decide +kernel
theorem dX6_back_60 : decode cX6_back 60 = .ok (.iastore, 1) := by decide +kernel
theorem dX6_back_61 : decode cX6_back 61 = .ok (.iinc 1 1, 3) := by decide +kernel
theorem dX6_back_64 : decode cX6_back 64 = .ok (.goto (-42), 3) := by decide +kernel
theorem dX6_back_67 : decode cX6_back 67 = .ok (.aload_n 0, 1) := by decide +kernel
theorem dX6_back_68 : decode cX6_back 68 = .ok (.getfield 93, 3) := by decide +kernel
theorem dX6_back_71 : decode cX6_back 71 = .ok (.ireturn, 1) := by decide +kernel
set_option maxRecDepth 20000 in
theorem ggX6_cell_X6_isMask : GoodIn wsX6_cell wsX6_isMask := goodIn_r _ [4, 5, 6, 7, 3, 8] (by decide +kernel) (by decide +kernel)
set_option maxRecDepth 20000 in
theorem gX6_cell_X6_isMask : GoodIn wsX6_cell (va_wsS RX6 103 yX6_isMask wsX6_isMask) := goodIn_app (goodIn_of _ (by decide +kernel)) ggX6_cell_X6_isMask
set_option maxRecDepth 20000 in
theorem ggX6_cell_X6_isCell : GoodIn wsX6_cell wsX6_isCell := goodIn_r _ [11, 12, 6, 7, 3, 8] (by decide +kernel) (by decide +kernel)
set_option maxRecDepth 20000 in
theorem gX6_cell_X6_isCell : GoodIn wsX6_cell (va_wsS RX6 86 yX6_isCell wsX6_isCell) := goodIn_app (goodIn_of _ (by decide +kernel)) ggX6_cell_X6_isCell
set_option maxRecDepth 20000 in
theorem ggX6_cell_X6_dark : GoodIn wsX6_cell wsX6_dark := goodIn_r _ [16, 17, 9, 10, 3, 11, 12, 6, 7, 8, 18, 19, 20, 21, 22, 23, 24, 25, 26, 27, 28, 29, 30, 31, 32, 33, 34, 35, 36, 37, 38] (by decide +kernel) (by decide +kernel)
set_option maxRecDepth 20000 in
theorem gX6_cell_X6_dark : GoodIn wsX6_cell (wsV RX6 90 RX6 yX6_dark wsX6_dark) := goodIn_app (goodIn_of _ (by decide +kernel)) ggX6_cell_X6_dark
theorem dX6_cell_0 : decode cX6_cell 0 = .ok (.iload_n 1, 1) := by decide +kernel
theorem dX6_cell_1 : decode cX6_cell 1 = .ok (.invokestatic 103, 3) := by decide +kernel
theorem dX6_cell_4 : decode cX6_cell 4 = .ok (.ifCond .eq 21, 3) := by decide +kernel
theorem dX6_cell_7 : decode cX6_cell 7 = .ok (.iload_n 2, 1) := by decide +kernel
theorem dX6_cell_8 : decode cX6_cell 8 = .ok (.iload_n 3, 1) := by decide +kernel
theorem dX6_cell_9 : decode cX6_cell 9 = .ok (.invokestatic 86, 3) := by decide +kernel
theorem dX6_cell_12 : decode cX6_cell 12 = .ok (.ifCond .eq 13, 3) := by decide +kernel
theorem dX6_cell_15 : decode cX6_cell 15 = .ok (.aload_n 0, 1) := by decide +kernel
theorem dX6_cell_16 : decode cX6_cell 16 = .ok (.iload_n 1, 1) := by decide +kernel
theorem dX6_cell_17 : decode cX6_cell 17 = .ok (.iload_n 2, 1) := by decide +kernel
theorem dX6_cell_18 : decode cX6_cell 18 = .ok (.iload_n 3, 1) := by decide +kernel
theorem dX6_cell_19 : decode cX6_cell 19 = .ok (.invokevirtual 90, 3) := by decide +kernel
theorem dX6_cell_22 : decode cX6_cell 22 = .ok (.goto 5, 3) := by decide +kernel
theorem dX6_cell_25 : decode cX6_cell 25 = .ok (.bipush (-2), 2) := by decide +kernel
theorem dX6_cell_27 : decode cX6_cell 27 = .ok (.ireturn, 1) := by decide +kernel
theorem dX6_isBlock_0 : decode cX6_isBlock 0 = .ok (.iconst 1, 1) := by decide +kernel
theorem dX6_isBlock_1 : decode cX6_isBlock 1 = .ok (.iload 4, 2) := by decide +kernel
theorem dX6_isBlock_3 : decode cX6_isBlock 3 = .ok (.ishl, 1) := by decide +kernel
theorem dX6_isBlock_4 : decode cX6_isBlock 4 = .ok (.iconst 1, 1) := by decide +kernel
theorem dX6_isBlock_5 : decode cX6_isBlock 5 = .ok (.isub, 1) := by decide +kernel
theorem dX6_isBlock_6 : decode cX6_isBlock 6 = .ok (.iload_n 2, 1) := by decide +kernel
theorem dX6_isBlock_7 : decode cX6_isBlock 7 = .ok (.ishl, 1) := by decide +kernel
theorem dX6_isBlock_8 : decode cX6_isBlock 8 = .ok (.istore 5, 2) := by decide +kernel
theorem dX6_isBlock_10 : decode cX6_isBlock 10 = .ok (.aload_n 0, 1) := by decide +kernel
theorem dX6_isBlock_11 : decode cX6_isBlock 11 = .ok (.getfield 22, 3) := by decide +kernel
theorem dX6_isBlock_14 : decode cX6_isBlock 14 = .ok (.bipush 16, 2) := by decide +kernel
theorem dX6_isBlock_16 : decode cX6_isBlock 16 = .ok (.iload_n 1, 1) := by decide +kernel
theorem dX6_isBlock_17 : decode cX6_isBlock 17 = .ok (.imul, 1) := by decide +kernel
theorem dX6_isBlock_18 : decode cX6_isBlock 18 = .ok (.iload_n 3, 1) := by decide +kernel
theorem dX6_isBlock_19 : decode cX6_isBlock 19 = .ok (.iadd, 1) := by decide +kernel
theorem dX6_isBlock_20 : decode cX6_isBlock 20 = .ok (.iaload, 1) := by decide +kernel
theorem dX6_isBlock_21 : decode cX6_isBlock 21 = .ok (.iload 5, 2) := by decide +kernel
theorem dX6_isBlock_23 : decode cX6_isBlock 23 = .ok (.iand, 1) := by decide +kernel
theorem dX6_isBlock_24 : decode cX6_isBlock 24 = .ok (.istore 6, 2) := by decide +kernel
theorem dX6_isBlock_26 : decode cX6_isBlock 26 = .ok (.iload 6, 2) := by decide +kernel
theorem dX6_isBlock_28 : decode cX6_isBlock 28 = .ok (.ifCond .eq 10, 3) := by decide +kernel
theorem dX6_isBlock_31 : decode cX6_isBlock 31 = .ok (.iload 6, 2) := by decide +kernel
theorem dX6_isBlock_33 : decode cX6_isBlock 33 = .ok (.iload 5, 2) := by decide +kernel
theorem dX6_isBlock_35 : decode cX6_isBlock 35 = .ok (.if_icmp .ne 7, 3) := by decide +kernel
theorem dX6_isBlock_38 : decode cX6_isBlock 38 = .ok (.iconst 1, 1) := by decide +kernel
theorem dX6_isBlock_39 : decode cX6_isBlock 39 = .ok (.goto 4, 3) := by decide +kernel
theorem dX6_isBlock_42 : decode cX6_isBlock 42 = .ok (.iconst 0, 1) := by decide +kernel
theorem dX6_isBlock_43 : decode cX6_isBlock 43 = .ok (.istore 7, 2) := by decide +kernel
theorem dX6_isBlock_45 : decode cX6_isBlock 45 = .ok (.iconst 1, 1) := by decide +kernel
theorem dX6_isBlock_46 : decode cX6_isBlock 46 = .ok (.istore 8, 2) := by decide +kernel
theorem dX6_isBlock_48 : decode cX6_isBlock 48 = .ok (.iload 8, 2) := by decide +kernel
theorem dX6_isBlock_50 : decode cX6_isBlock 50 = .ok (.iload 4, 2) := by decide +kernel
theorem dX6_isBlock_52 : decode cX6_isBlock 52 = .ok (.if_icmp .ge 43, 3) := by decide +kernel
theorem dX6_isBlock_55 : decode cX6_isBlock 55 = .ok (.iload 7, 2) := by decide +kernel
theorem dX6_isBlock_57 : decode cX6_isBlock 57 = .ok (.ifCond .eq 38, 3) := by decide +kernel
theorem dX6_isBlock_60 : decode cX6_isBlock 60 = .ok (.aload_n 0, 1) := by decide +kernel
theorem dX6_isBlock_61 : decode cX6_isBlock 61 = .ok (.getfield 22, 3) := by decide +kernel
theorem dX6_isBlock_64 : decode cX6_isBlock 64 = .ok (.bipush 16, 2) := by decide +kernel
theorem dX6_isBlock_66 : decode cX6_isBlock 66 = .ok (.iload_n 1, 1) := by decide +kernel
theorem dX6_isBlock_67 : decode cX6_isBlock 67 = .ok (.imul, 1) := by decide +kernel
theorem dX6_isBlock_68 : decode cX6_isBlock 68 = .ok (.iload_n 3, 1) := by decide +kernel
theorem dX6_isBlock_69 : decode cX6_isBlock 69 = .ok (.iadd, 1) := by decide +kernel
theorem dX6_isBlock_70 : decode cX6_isBlock 70 = .ok (.iload 8, 2) := by decide +kernel
theorem dX6_isBlock_72 : decode cX6_isBlock 72 = .ok (.iadd, 1) := by decide +kernel
theorem dX6_isBlock_73 : decode cX6_isBlock 73 = .ok (.iaload, 1) := by decide +kernel
theorem dX6_isBlock_74 : decode cX6_isBlock 74 = .ok (.iload 5, 2) := by decide +kernel
theorem dX6_isBlock_76 : decode cX6_isBlock 76 = .ok (.iand, 1) := by decide +kernel
theorem dX6_isBlock_77 : decode cX6_isBlock 77 = .ok (.iload 6, 2) := by decide +kernel
theorem dX6_isBlock_79 : decode cX6_isBlock 79 = .ok (.if_icmp .ne 7, 3) := by decide +kernel
theorem dX6_isBlock_82 : decode cX6_isBlock 82 = .ok (.iconst 1, 1) := by decide +kernel
theorem dX6_isBlock_83 : decode cX6_isBlock 83 = .ok (.goto 4, 3) := by decide +kernel
theorem dX6_isBlock_86 : decode cX6_isBlock 86 = .ok (.iconst 0, 1) := by decide +kernel
theorem dX6_isBlock_87 : decode cX6_isBlock 87 = .ok (.istore 7, 2) := by decide +kernel
theorem dX6_isBlock_89 : decode cX6_isBlock 89 = .ok (.iinc 8 1, 3) := by decide +kernel
theorem dX6_isBlock_92 : decode cX6_isBlock 92 = .ok (.goto (-44), 3) := by decide +kernel
theorem dX6_isBlock_95 : decode cX6_isBlock 95 = .ok (.iload 7, 2) := by decide +kernel
theorem dX6_isBlock_97 : decode cX6_isBlock 97 = .ok (.ireturn, 1) := by decide +kernel
set_option maxRecDepth 20000 in
theorem ggX6_blockBy_X6_isBlock : GoodIn wsX6_blockBy wsX6_isBlock := goodIn_r _ [5, 6, 7, 8, 9, 10, 11, 12, 13, 14, 15, 16, 17, 18, 19, 20, 21, 22, 23, 24, 25, 26, 27] (by decide +kernel) (by decide +kernel)
set_option maxRecDepth 20000 in
theorem gX6_blockBy_X6_isBlock : GoodIn wsX6_blockBy (wsV RX6 166 RX6 yX6_isBlock wsX6_isBlock) := goodIn_app (goodIn_of _ (by decide +kernel)) ggX6_blockBy_X6_isBlock
theorem dX6_blockBy_0 : decode cX6_blockBy 0 = .ok (.bipush 16, 2) := by decide +kernel
theorem dX6_blockBy_2 : decode cX6_blockBy 2 = .ok (.istore 5, 2) := by decide +kernel
theorem dX6_blockBy_4 : decode cX6_blockBy 4 = .ok (.aload_n 0, 1) := by decide +kernel
theorem dX6_blockBy_5 : decode cX6_blockBy 5 = .ok (.iload_n 1, 1) := by decide +kernel
theorem dX6_blockBy_6 : decode cX6_blockBy 6 = .ok (.iload_n 2, 1) := by decide +kernel
theorem dX6_blockBy_7 : decode cX6_blockBy 7 = .ok (.iload 5, 2) := by decide +kernel
theorem dX6_blockBy_9 : decode cX6_blockBy 9 = .ok (.idiv, 1) := by decide +kernel
theorem dX6_blockBy_10 : decode cX6_blockBy 10 = .ok (.iload 5, 2) := by decide +kernel
theorem dX6_blockBy_12 : decode cX6_blockBy 12 = .ok (.imul, 1) := by decide +kernel
theorem dX6_blockBy_13 : decode cX6_blockBy 13 = .ok (.iload_n 3, 1) := by decide +kernel
theorem dX6_blockBy_14 : decode cX6_blockBy 14 = .ok (.iload 5, 2) := by decide +kernel
theorem dX6_blockBy_16 : decode cX6_blockBy 16 = .ok (.idiv, 1) := by decide +kernel
theorem dX6_blockBy_17 : decode cX6_blockBy 17 = .ok (.iload 5, 2) := by decide +kernel
theorem dX6_blockBy_19 : decode cX6_blockBy 19 = .ok (.imul, 1) := by decide +kernel
theorem dX6_blockBy_20 : decode cX6_blockBy 20 = .ok (.iload 5, 2) := by decide +kernel
theorem dX6_blockBy_22 : decode cX6_blockBy 22 = .ok (.invokevirtual 166, 3) := by decide +kernel
theorem dX6_blockBy_25 : decode cX6_blockBy 25 = .ok (.ifCond .ne 12, 3) := by decide +kernel
theorem dX6_blockBy_28 : decode cX6_blockBy 28 = .ok (.iload 5, 2) := by decide +kernel
theorem dX6_blockBy_30 : decode cX6_blockBy 30 = .ok (.iconst 2, 1) := by decide +kernel
theorem dX6_blockBy_31 : decode cX6_blockBy 31 = .ok (.idiv, 1) := by decide +kernel
theorem dX6_blockBy_32 : decode cX6_blockBy 32 = .ok (.istore 5, 2) := by decide +kernel
theorem dX6_blockBy_34 : decode cX6_blockBy 34 = .ok (.goto (-30), 3) := by decide +kernel
theorem dX6_blockBy_37 : decode cX6_blockBy 37 = .ok (.iload 4, 2) := by decide +kernel
theorem dX6_blockBy_39 : decode cX6_blockBy 39 = .ok (.ifCond .ne 13, 3) := by decide +kernel
theorem dX6_blockBy_42 : decode cX6_blockBy 42 = .ok (.iload_n 2, 1) := by decide +kernel
theorem dX6_blockBy_43 : decode cX6_blockBy 43 = .ok (.iload 5, 2) := by decide +kernel
theorem dX6_blockBy_45 : decode cX6_blockBy 45 = .ok (.idiv, 1) := by decide +kernel
theorem dX6_blockBy_46 : decode cX6_blockBy 46 = .ok (.iload 5, 2) := by decide +kernel
theorem dX6_blockBy_48 : decode cX6_blockBy 48 = .ok (.imul, 1) := by decide +kernel
theorem dX6_blockBy_49 : decode cX6_blockBy 49 = .ok (.goto 21, 3) := by decide +kernel
theorem dX6_blockBy_52 : decode cX6_blockBy 52 = .ok (.iload 4, 2) := by decide +kernel
theorem dX6_blockBy_54 : decode cX6_blockBy 54 = .ok (.iconst 1, 1) := by decide +kernel
theorem dX6_blockBy_55 : decode cX6_blockBy 55 = .ok (.if_icmp .ne 13, 3) := by decide +kernel
theorem dX6_blockBy_58 : decode cX6_blockBy 58 = .ok (.iload_n 3, 1) := by decide +kernel
theorem dX6_blockBy_59 : decode cX6_blockBy 59 = .ok (.iload 5, 2) := by decide +kernel
theorem dX6_blockBy_61 : decode cX6_blockBy 61 = .ok (.idiv, 1) := by decide +kernel
theorem dX6_blockBy_62 : decode cX6_blockBy 62 = .ok (.iload 5, 2) := by decide +kernel
theorem dX6_blockBy_64 : decode cX6_blockBy 64 = .ok (.imul, 1) := by decide +kernel
theorem dX6_blockBy_65 : decode cX6_blockBy 65 = .ok (.goto 5, 3) := by decide +kernel
theorem dX6_blockBy_68 : decode cX6_blockBy 68 = .ok (.iload 5, 2) := by decide +kernel
theorem dX6_blockBy_70 : decode cX6_blockBy 70 = .ok (.ireturn, 1) := by decide +kernel
set_option maxRecDepth 20000 in
theorem ggX6_block_X6_isMask : GoodIn wsX6_block wsX6_isMask := goodIn_r _ [5, 6, 7, 8, 4, 9] (by decide +kernel) (by decide +kernel)
set_option maxRecDepth 20000 in
theorem gX6_block_X6_isMask : GoodIn wsX6_block (va_wsS RX6 103 yX6_isMask wsX6_isMask) := goodIn_app (goodIn_of _ (by decide +kernel)) ggX6_block_X6_isMask
set_option maxRecDepth 20000 in
theorem ggX6_block_X6_isCell : GoodIn wsX6_block wsX6_isCell := goodIn_r _ [12, 13, 7, 8, 4, 9] (by decide +kernel) (by decide +kernel)
set_option maxRecDepth 20000 in
theorem gX6_block_X6_isCell : GoodIn wsX6_block (va_wsS RX6 86 yX6_isCell wsX6_isCell) := goodIn_app (goodIn_of _ (by decide +kernel)) ggX6_block_X6_isCell
set_option maxRecDepth 20000 in
theorem ggX6_block_X6_in : GoodIn wsX6_block wsX6_in := goodIn_r _ [9] (by decide +kernel) (by decide +kernel)
set_option maxRecDepth 20000 in
theorem gX6_block_X6_in : GoodIn wsX6_block (va_wsS RX6 55 yX6_in wsX6_in) := goodIn_app (goodIn_of _ (by decide +kernel)) ggX6_block_X6_in
set_option maxRecDepth 20000 in
theorem ggX6_block_X6_blockBy : GoodIn wsX6_block wsX6_blockBy := goodIn_r _ [17, 18, 19, 20, 4, 21, 22, 23, 24, 25, 26, 27, 28, 29, 30, 31, 32, 33, 34, 35, 36, 37, 38, 39, 40, 41, 42, 43] (by decide +kernel) (by decide +kernel)
set_option maxRecDepth 20000 in
theorem gX6_block_X6_blockBy : GoodIn wsX6_block (wsV RX6 170 RX6 yX6_blockBy wsX6_blockBy) := goodIn_app (goodIn_of _ (by decide +kernel)) ggX6_block_X6_blockBy
theorem dX6_block_0 : decode cX6_block 0 = .ok (.iload_n 1, 1) := by decide +kernel
theorem dX6_block_1 : decode cX6_block 1 = .ok (.invokestatic 103, 3) := by decide +kernel
theorem dX6_block_4 : decode cX6_block 4 = .ok (.ifCond .eq 36, 3) := by decide +kernel
theorem dX6_block_7 : decode cX6_block 7 = .ok (.iload_n 2, 1) := by decide +kernel
theorem dX6_block_8 : decode cX6_block 8 = .ok (.iload_n 3, 1) := by decide +kernel
theorem dX6_block_9 : decode cX6_block 9 = .ok (.invokestatic 86, 3) := by decide +kernel
theorem dX6_block_12 : decode cX6_block 12 = .ok (.ifCond .eq 28, 3) := by decide +kernel
theorem dX6_block_15 : decode cX6_block 15 = .ok (.iload 4, 2) := by decide +kernel
theorem dX6_block_17 : decode cX6_block 17 = .ok (.i2l, 1) := by decide +kernel
theorem dX6_block_18 : decode cX6_block 18 = .ok (.lconst 0, 1) := by decide +kernel
theorem dX6_block_19 : decode cX6_block 19 = .ok (.ldc2_w 69, 3) := by decide +kernel
theorem dX6_block_22 : decode cX6_block 22 = .ok (.invokestatic 55, 3) := by decide +kernel
theorem dX6_block_25 : decode cX6_block 25 = .ok (.ifCond .eq 15, 3) := by decide +kernel
theorem dX6_block_28 : decode cX6_block 28 = .ok (.aload_n 0, 1) := by decide +kernel
theorem dX6_block_29 : decode cX6_block 29 = .ok (.iload_n 1, 1) := by decide +kernel
theorem dX6_block_30 : decode cX6_block 30 = .ok (.iload_n 2, 1) := by decide +kernel
theorem dX6_block_31 : decode cX6_block 31 = .ok (.iload_n 3, 1) := by decide +kernel
theorem dX6_block_32 : decode cX6_block 32 = .ok (.iload 4, 2) := by decide +kernel
theorem dX6_block_34 : decode cX6_block 34 = .ok (.invokevirtual 170, 3) := by decide +kernel
theorem dX6_block_37 : decode cX6_block 37 = .ok (.goto 5, 3) := by decide +kernel
theorem dX6_block_40 : decode cX6_block 40 = .ok (.bipush (-2), 2) := by decide +kernel
theorem dX6_block_42 : decode cX6_block 42 = .ok (.ireturn, 1) := by decide +kernel
theorem dX6_deepOf_0 : decode cX6_deepOf 0 = .ok (.iload_n 0, 1) := by decide +kernel
theorem dX6_deepOf_1 : decode cX6_deepOf 1 = .ok (.bipush 16, 2) := by decide +kernel
theorem dX6_deepOf_3 : decode cX6_deepOf 3 = .ok (.if_icmp .ne 7, 3) := by decide +kernel
theorem dX6_deepOf_6 : decode cX6_deepOf 6 = .ok (.iconst 1, 1) := by decide +kernel
theorem dX6_deepOf_7 : decode cX6_deepOf 7 = .ok (.goto 23, 3) := by decide +kernel
theorem dX6_deepOf_10 : decode cX6_deepOf 10 = .ok (.iload_n 0, 1) := by decide +kernel
theorem dX6_deepOf_11 : decode cX6_deepOf 11 = .ok (.bipush 8, 2) := by decide +kernel
theorem dX6_deepOf_13 : decode cX6_deepOf 13 = .ok (.if_icmp .ne 7, 3) := by decide +kernel
theorem dX6_deepOf_16 : decode cX6_deepOf 16 = .ok (.iconst 2, 1) := by decide +kernel
theorem dX6_deepOf_17 : decode cX6_deepOf 17 = .ok (.goto 13, 3) := by decide +kernel
theorem dX6_deepOf_20 : decode cX6_deepOf 20 = .ok (.iload_n 0, 1) := by decide +kernel
theorem dX6_deepOf_21 : decode cX6_deepOf 21 = .ok (.iconst 4, 1) := by decide +kernel
theorem dX6_deepOf_22 : decode cX6_deepOf 22 = .ok (.if_icmp .ne 7, 3) := by decide +kernel
theorem dX6_deepOf_25 : decode cX6_deepOf 25 = .ok (.iconst 3, 1) := by decide +kernel
theorem dX6_deepOf_26 : decode cX6_deepOf 26 = .ok (.goto 4, 3) := by decide +kernel
theorem dX6_deepOf_29 : decode cX6_deepOf 29 = .ok (.iconst 4, 1) := by decide +kernel
theorem dX6_deepOf_30 : decode cX6_deepOf 30 = .ok (.ireturn, 1) := by decide +kernel
set_option maxRecDepth 20000 in
theorem ggX6_shows_X6_later : GoodIn wsX6_shows wsX6_later := goodIn_r _ [12, 4, 3, 5, 6, 39, 40, 41, 42, 43, 44, 45, 46, 47, 48, 49, 50, 51, 52, 53, 54, 55, 56, 57, 58, 59] (by decide +kernel) (by decide +kernel)
set_option maxRecDepth 20000 in
theorem gX6_shows_X6_later : GoodIn wsX6_shows (wsV RX6 157 RX6 yX6_later wsX6_later) := goodIn_app (goodIn_of _ (by decide +kernel)) ggX6_shows_X6_later
set_option maxRecDepth 20000 in
theorem ggX6_shows_X6_isBlock : GoodIn wsX6_shows wsX6_isBlock := goodIn_r _ [16, 17, 39, 40, 41, 42, 43, 44, 45, 46, 47, 48, 49, 50, 51, 52, 53, 54, 55, 56, 57, 58, 59] (by decide +kernel) (by decide +kernel)
set_option maxRecDepth 20000 in
theorem gX6_shows_X6_isBlock : GoodIn wsX6_shows (wsV RX6 166 RX6 yX6_isBlock wsX6_isBlock) := goodIn_app (goodIn_of _ (by decide +kernel)) ggX6_shows_X6_isBlock
set_option maxRecDepth 20000 in
theorem ggX6_shows_X6_dark : GoodIn wsX6_shows wsX6_dark := goodIn_r _ [21, 17, 22, 23, 11, 24, 25, 26, 27, 28, 39, 40, 41, 42, 43, 44, 45, 46, 47, 48, 49, 50, 51, 52, 53, 54, 55, 56, 57, 58, 59] (by decide +kernel) (by decide +kernel)
set_option maxRecDepth 20000 in
theorem gX6_shows_X6_dark : GoodIn wsX6_shows (wsV RX6 90 RX6 yX6_dark wsX6_dark) := goodIn_app (goodIn_of _ (by decide +kernel)) ggX6_shows_X6_dark
set_option maxRecDepth 20000 in
theorem ggX6_shows_X6_deepOf : GoodIn wsX6_shows wsX6_deepOf := goodIn_r _ [31] (by decide +kernel) (by decide +kernel)
set_option maxRecDepth 20000 in
theorem gX6_shows_X6_deepOf : GoodIn wsX6_shows (va_wsS RX6 177 yX6_deepOf wsX6_deepOf) := goodIn_app (goodIn_of _ (by decide +kernel)) ggX6_shows_X6_deepOf
set_option maxRecDepth 20000 in
theorem ggX6_shows_X6_greater : GoodIn wsX6_shows wsX6_greater := goodIn_r _ [34] (by decide +kernel) (by decide +kernel)
set_option maxRecDepth 20000 in
theorem gX6_shows_X6_greater : GoodIn wsX6_shows (va_wsS RX6 180 yX6_greater wsX6_greater) := goodIn_app (goodIn_of _ (by decide +kernel)) ggX6_shows_X6_greater
set_option maxRecDepth 20000 in
theorem ggX6_shows_X6_quarters : GoodIn wsX6_shows wsX6_quarters := goodIn_r _ [38, 8, 9, 10, 11, 12, 4, 3, 5, 6, 39, 40, 41, 42, 43, 44, 45, 46, 47, 48, 49, 50, 51, 52, 53, 54, 55, 56, 57, 58, 59] (by decide +kernel) (by decide +kernel)
set_option maxRecDepth 20000 in
theorem gX6_shows_X6_quarters : GoodIn wsX6_shows (wsV RX6 160 RX6 yX6_quarters wsX6_quarters) := goodIn_app (goodIn_of _ (by decide +kernel)) ggX6_shows_X6_quarters
theorem dX6_shows_0 : decode cX6_shows 0 = .ok (.aload_n 0, 1) := by decide +kernel
theorem dX6_shows_1 : decode cX6_shows 1 = .ok (.iconst 0, 1) := by decide +kernel
theorem dX6_shows_2 : decode cX6_shows 2 = .ok (.putfield 174, 3) := by decide +kernel
theorem dX6_shows_5 : decode cX6_shows 5 = .ok (.iconst 0, 1) := by decide +kernel
theorem dX6_shows_6 : decode cX6_shows 6 = .ok (.istore_n 2, 1) := by decide +kernel
theorem dX6_shows_7 : decode cX6_shows 7 = .ok (.iload_n 2, 1) := by decide +kernel
theorem dX6_shows_8 : decode cX6_shows 8 = .ok (.iconst 4, 1) := by decide +kernel
theorem dX6_shows_9 : decode cX6_shows 9 = .ok (.if_icmp .ge 16, 3) := by decide +kernel
theorem dX6_shows_12 : decode cX6_shows 12 = .ok (.aload_n 0, 1) := by decide +kernel
theorem dX6_shows_13 : decode cX6_shows 13 = .ok (.getfield 52, 3) := by decide +kernel
theorem dX6_shows_16 : decode cX6_shows 16 = .ok (.iload_n 2, 1) := by decide +kernel
theorem dX6_shows_17 : decode cX6_shows 17 = .ok (.iconst 0, 1) := by decide +kernel
theorem dX6_shows_18 : decode cX6_shows 18 = .ok (.iastore, 1) := by decide +kernel
theorem dX6_shows_19 : decode cX6_shows 19 = .ok (.iinc 2 1, 3) := by decide +kernel
theorem dX6_shows_22 : decode cX6_shows 22 = .ok (.goto (-15), 3) := by decide +kernel
theorem dX6_shows_25 : decode cX6_shows 25 = .ok (.aload_n 0, 1) := by decide +kernel
theorem dX6_shows_26 : decode cX6_shows 26 = .ok (.iconst 0, 1) := by decide +kernel
theorem dX6_shows_27 : decode cX6_shows 27 = .ok (.putfield 154, 3) := by decide +kernel
theorem dX6_shows_30 : decode cX6_shows 30 = .ok (.aload_n 0, 1) := by decide +kernel
theorem dX6_shows_31 : decode cX6_shows 31 = .ok (.iconst 0, 1) := by decide +kernel
theorem dX6_shows_32 : decode cX6_shows 32 = .ok (.iconst 0, 1) := by decide +kernel
theorem dX6_shows_33 : decode cX6_shows 33 = .ok (.bipush 16, 2) := by decide +kernel
theorem dX6_shows_35 : decode cX6_shows 35 = .ok (.invokevirtual 157, 3) := by decide +kernel
theorem dX6_shows_38 : decode cX6_shows 38 = .ok (.aload_n 0, 1) := by decide +kernel
theorem dX6_shows_39 : decode cX6_shows 39 = .ok (.getfield 154, 3) := by decide +kernel
theorem dX6_shows_42 : decode cX6_shows 42 = .ok (.ifCond .le 202, 3) := by decide +kernel
theorem dX6_shows_45 : decode cX6_shows 45 = .ok (.aload_n 0, 1) := by decide +kernel
theorem dX6_shows_46 : decode cX6_shows 46 = .ok (.dup, 1) := by decide +kernel
theorem dX6_shows_47 : decode cX6_shows 47 = .ok (.getfield 154, 3) := by decide +kernel
theorem dX6_shows_50 : decode cX6_shows 50 = .ok (.iconst 1, 1) := by decide +kernel
theorem dX6_shows_51 : decode cX6_shows 51 = .ok (.isub, 1) := by decide +kernel
theorem dX6_shows_52 : decode cX6_shows 52 = .ok (.putfield 154, 3) := by decide +kernel
theorem dX6_shows_55 : decode cX6_shows 55 = .ok (.aload_n 0, 1) := by decide +kernel
theorem dX6_shows_56 : decode cX6_shows 56 = .ok (.getfield 40, 3) := by decide +kernel
theorem dX6_shows_59 : decode cX6_shows 59 = .ok (.aload_n 0, 1) := by decide +kernel
theorem dX6_shows_60 : decode cX6_shows 60 = .ok (.getfield 154, 3) := by decide +kernel
theorem dX6_shows_63 : decode cX6_shows 63 = .ok (.iaload, 1) := by decide +kernel
theorem dX6_shows_64 : decode cX6_shows 64 = .ok (.istore_n 2, 1) := by decide +kernel
theorem dX6_shows_65 : decode cX6_shows 65 = .ok (.aload_n 0, 1) := by decide +kernel
theorem dX6_shows_66 : decode cX6_shows 66 = .ok (.getfield 43, 3) := by decide +kernel
theorem dX6_shows_69 : decode cX6_shows 69 = .ok (.aload_n 0, 1) := by decide +kernel
theorem dX6_shows_70 : decode cX6_shows 70 = .ok (.getfield 154, 3) := by decide +kernel
theorem dX6_shows_73 : decode cX6_shows 73 = .ok (.iaload, 1) := by decide +kernel
theorem dX6_shows_74 : decode cX6_shows 74 = .ok (.istore_n 3, 1) := by decide +kernel
theorem dX6_shows_75 : decode cX6_shows 75 = .ok (.aload_n 0, 1) := by decide +kernel
theorem dX6_shows_76 : decode cX6_shows 76 = .ok (.getfield 46, 3) := by decide +kernel
theorem dX6_shows_79 : decode cX6_shows 79 = .ok (.aload_n 0, 1) := by decide +kernel
theorem dX6_shows_80 : decode cX6_shows 80 = .ok (.getfield 154, 3) := by decide +kernel
theorem dX6_shows_83 : decode cX6_shows 83 = .ok (.iaload, 1) := by decide +kernel
theorem dX6_shows_84 : decode cX6_shows 84 = .ok (.istore 4, 2) := by decide +kernel
theorem dX6_shows_86 : decode cX6_shows 86 = .ok (.aload_n 0, 1) := by decide +kernel
theorem dX6_shows_87 : decode cX6_shows 87 = .ok (.iload_n 1, 1) := by decide +kernel
theorem dX6_shows_88 : decode cX6_shows 88 = .ok (.iload_n 2, 1) := by decide +kernel
theorem dX6_shows_89 : decode cX6_shows 89 = .ok (.iload_n 3, 1) := by decide +kernel
theorem dX6_shows_90 : decode cX6_shows 90 = .ok (.iload 4, 2) := by decide +kernel
theorem dX6_shows_92 : decode cX6_shows 92 = .ok (.invokevirtual 166, 3) := by decide +kernel
theorem dX6_shows_95 : decode cX6_shows 95 = .ok (.istore 5, 2) := by decide +kernel
theorem dX6_shows_97 : decode cX6_shows 97 = .ok (.iload 5, 2) := by decide +kernel
theorem dX6_shows_99 : decode cX6_shows 99 = .ok (.ifCond .eq 13, 3) := by decide +kernel
theorem dX6_shows_102 : decode cX6_shows 102 = .ok (.aload_n 0, 1) := by decide +kernel
theorem dX6_shows_103 : decode cX6_shows 103 = .ok (.iload_n 1, 1) := by decide +kernel
theorem dX6_shows_104 : decode cX6_shows 104 = .ok (.iload_n 2, 1) := by decide +kernel
theorem dX6_shows_105 : decode cX6_shows 105 = .ok (.iload_n 3, 1) := by decide +kernel
theorem dX6_shows_106 : decode cX6_shows 106 = .ok (.invokevirtual 90, 3) := by decide +kernel
theorem dX6_shows_109 : decode cX6_shows 109 = .ok (.goto 4, 3) := by decide +kernel
theorem dX6_shows_112 : decode cX6_shows 112 = .ok (.iconst 2, 1) := by decide +kernel
theorem dX6_shows_113 : decode cX6_shows 113 = .ok (.istore 6, 2) := by decide +kernel
theorem dX6_shows_115 : decode cX6_shows 115 = .ok (.aload_n 0, 1) := by decide +kernel
theorem dX6_shows_116 : decode cX6_shows 116 = .ok (.getfield 49, 3) := by decide +kernel
theorem dX6_shows_119 : decode cX6_shows 119 = .ok (.aload_n 0, 1) := by decide +kernel
theorem dX6_shows_120 : decode cX6_shows 120 = .ok (.getfield 174, 3) := by decide +kernel
theorem dX6_shows_123 : decode cX6_shows 123 = .ok (.iload 6, 2) := by decide +kernel
theorem dX6_shows_125 : decode cX6_shows 125 = .ok (.iastore, 1) := by decide +kernel
theorem dX6_shows_126 : decode cX6_shows 126 = .ok (.aload_n 0, 1) := by decide +kernel
theorem dX6_shows_127 : decode cX6_shows 127 = .ok (.dup, 1) := by decide +kernel
theorem dX6_shows_128 : decode cX6_shows 128 = .ok (.getfield 174, 3) := by decide +kernel
theorem dX6_shows_131 : decode cX6_shows 131 = .ok (.iconst 1, 1) := by decide +kernel
theorem dX6_shows_132 : decode cX6_shows 132 = .ok (.iadd, 1) := by decide +kernel
theorem dX6_shows_133 : decode cX6_shows 133 = .ok (.putfield 174, 3) := by decide +kernel
theorem dX6_shows_136 : decode cX6_shows 136 = .ok (.aload_n 0, 1) := by decide +kernel
theorem dX6_shows_137 : decode cX6_shows 137 = .ok (.getfield 52, 3) := by decide +kernel
theorem dX6_shows_140 : decode cX6_shows 140 = .ok (.iconst 0, 1) := by decide +kernel
theorem dX6_shows_141 : decode cX6_shows 141 = .ok (.dup2, 1) := by decide +kernel
theorem dX6_shows_142 : decode cX6_shows 142 = .ok (.iaload, 1) := by decide +kernel
theorem dX6_shows_143 : decode cX6_shows 143 = .ok (.iload 5, 2) := by decide +kernel
theorem dX6_shows_145 : decode cX6_shows 145 = .ok (.ifCond .eq 7, 3) := by decide +kernel
theorem dX6_shows_148 : decode cX6_shows 148 = .ok (.iconst 1, 1) := by decide +kernel
theorem dX6_shows_149 : decode cX6_shows 149 = .ok (.goto 4, 3) := by decide +kernel
theorem dX6_shows_152 : decode cX6_shows 152 = .ok (.iconst 0, 1) := by decide +kernel
theorem dX6_shows_153 : decode cX6_shows 153 = .ok (.iadd, 1) := by decide +kernel
theorem dX6_shows_154 : decode cX6_shows 154 = .ok (.iastore, 1) := by decide +kernel
theorem dX6_shows_155 : decode cX6_shows 155 = .ok (.aload_n 0, 1) := by decide +kernel
theorem dX6_shows_156 : decode cX6_shows 156 = .ok (.getfield 52, 3) := by decide +kernel
theorem dX6_shows_159 : decode cX6_shows 159 = .ok (.iconst 1, 1) := by decide +kernel
theorem dX6_shows_160 : decode cX6_shows 160 = .ok (.dup2, 1) := by decide +kernel
theorem dX6_shows_161 : decode cX6_shows 161 = .ok (.iaload, 1) := by decide +kernel
theorem dX6_shows_162 : decode cX6_shows 162 = .ok (.iload 6, 2) := by decide +kernel
theorem dX6_shows_164 : decode cX6_shows 164 = .ok (.iconst 1, 1) := by decide +kernel
theorem dX6_shows_165 : decode cX6_shows 165 = .ok (.if_icmp .ne 7, 3) := by decide +kernel
theorem dX6_shows_168 : decode cX6_shows 168 = .ok (.iconst 1, 1) := by decide +kernel
theorem dX6_shows_169 : decode cX6_shows 169 = .ok (.goto 4, 3) := by decide +kernel
theorem dX6_shows_172 : decode cX6_shows 172 = .ok (.iconst 0, 1) := by decide +kernel
theorem dX6_shows_173 : decode cX6_shows 173 = .ok (.iadd, 1) := by decide +kernel
theorem dX6_shows_174 : decode cX6_shows 174 = .ok (.iastore, 1) := by decide +kernel
theorem dX6_shows_175 : decode cX6_shows 175 = .ok (.aload_n 0, 1) := by decide +kernel
theorem dX6_shows_176 : decode cX6_shows 176 = .ok (.getfield 52, 3) := by decide +kernel
theorem dX6_shows_179 : decode cX6_shows 179 = .ok (.iconst 2, 1) := by decide +kernel
theorem dX6_shows_180 : decode cX6_shows 180 = .ok (.dup2, 1) := by decide +kernel
theorem dX6_shows_181 : decode cX6_shows 181 = .ok (.iaload, 1) := by decide +kernel
theorem dX6_shows_182 : decode cX6_shows 182 = .ok (.iload 5, 2) := by decide +kernel
theorem dX6_shows_184 : decode cX6_shows 184 = .ok (.ifCond .eq 7, 3) := by decide +kernel
theorem dX6_shows_187 : decode cX6_shows 187 = .ok (.iconst 0, 1) := by decide +kernel
theorem dX6_shows_188 : decode cX6_shows 188 = .ok (.goto 4, 3) := by decide +kernel
theorem dX6_shows_191 : decode cX6_shows 191 = .ok (.iconst 1, 1) := by decide +kernel
theorem dX6_shows_192 : decode cX6_shows 192 = .ok (.iadd, 1) := by decide +kernel
theorem dX6_shows_193 : decode cX6_shows 193 = .ok (.iastore, 1) := by decide +kernel
theorem dX6_shows_194 : decode cX6_shows 194 = .ok (.aload_n 0, 1) := by decide +kernel
theorem dX6_shows_195 : decode cX6_shows 195 = .ok (.getfield 52, 3) := by decide +kernel
theorem dX6_shows_198 : decode cX6_shows 198 = .ok (.iconst 3, 1) := by decide +kernel
theorem dX6_shows_199 : decode cX6_shows 199 = .ok (.iload 5, 2) := by decide +kernel
theorem dX6_shows_201 : decode cX6_shows 201 = .ok (.ifCond .eq 12, 3) := by decide +kernel
theorem dX6_shows_204 : decode cX6_shows 204 = .ok (.aload_n 0, 1) := by decide +kernel
theorem dX6_shows_205 : decode cX6_shows 205 = .ok (.getfield 52, 3) := by decide +kernel
theorem dX6_shows_208 : decode cX6_shows 208 = .ok (.iconst 3, 1) := by decide +kernel
theorem dX6_shows_209 : decode cX6_shows 209 = .ok (.iaload, 1) := by decide +kernel
theorem dX6_shows_210 : decode cX6_shows 210 = .ok (.goto 17, 3) := by decide +kernel
theorem dX6_shows_213 : decode cX6_shows 213 = .ok (.iload 4, 2) := by decide +kernel
theorem dX6_shows_215 : decode cX6_shows 215 = .ok (.invokestatic 177, 3) := by decide +kernel
theorem dX6_shows_218 : decode cX6_shows 218 = .ok (.aload_n 0, 1) := by decide +kernel
theorem dX6_shows_219 : decode cX6_shows 219 = .ok (.getfield 52, 3) := by decide +kernel
theorem dX6_shows_222 : decode cX6_shows 222 = .ok (.iconst 3, 1) := by decide +kernel
theorem dX6_shows_223 : decode cX6_shows 223 = .ok (.iaload, 1) := by decide +kernel
theorem dX6_shows_224 : decode cX6_shows 224 = .ok (.invokestatic 180, 3) := by decide +kernel
theorem dX6_shows_227 : decode cX6_shows 227 = .ok (.iastore, 1) := by decide +kernel
theorem dX6_shows_228 : decode cX6_shows 228 = .ok (.iload 5, 2) := by decide +kernel
theorem dX6_shows_230 : decode cX6_shows 230 = .ok (.ifCond .ne 11, 3) := by decide +kernel
theorem dX6_shows_233 : decode cX6_shows 233 = .ok (.aload_n 0, 1) := by decide +kernel
theorem dX6_shows_234 : decode cX6_shows 234 = .ok (.iload_n 2, 1) := by decide +kernel
theorem dX6_shows_235 : decode cX6_shows 235 = .ok (.iload_n 3, 1) := by decide +kernel
theorem dX6_shows_236 : decode cX6_shows 236 = .ok (.iload 4, 2) := by decide +kernel
theorem dX6_shows_238 : decode cX6_shows 238 = .ok (.invokevirtual 160, 3) := by decide +kernel
theorem dX6_shows_241 : decode cX6_shows 241 = .ok (.goto (-203), 3) := by decide +kernel
theorem dX6_shows_244 : decode cX6_shows 244 = .ok (.return_, 1) := by decide +kernel
set_option maxRecDepth 20000 in
theorem ggX6_blocksBy_X6_shows : GoodIn wsX6_blocksBy wsX6_shows := goodIn_r _ [6, 7, 1, 8, 9, 10, 11, 12, 13, 14, 15, 5, 16, 17, 18, 19, 20, 21, 22, 23, 24, 25, 26, 27, 28, 29, 30, 31, 32, 33, 34, 35, 36, 37, 38, 39, 40, 41, 42, 43, 44, 45, 46, 47, 48, 49, 50, 51, 52, 53, 54, 55, 56, 57, 58, 59, 60, 61, 62, 63] (by decide +kernel) (by decide +kernel)
set_option maxRecDepth 20000 in
theorem gX6_blocksBy_X6_shows : GoodIn wsX6_blocksBy (wsV RX6 183 RX6 yX6_shows wsX6_shows) := goodIn_app (goodIn_of _ (by decide +kernel)) ggX6_blocksBy_X6_shows
theorem dX6_blocksBy_0 : decode cX6_blocksBy 0 = .ok (.aload_n 0, 1) := by decide +kernel
theorem dX6_blocksBy_1 : decode cX6_blocksBy 1 = .ok (.iload_n 1, 1) := by decide +kernel
theorem dX6_blocksBy_2 : decode cX6_blocksBy 2 = .ok (.invokevirtual 183, 3) := by decide +kernel
theorem dX6_blocksBy_5 : decode cX6_blocksBy 5 = .ok (.aload_n 0, 1) := by decide +kernel
theorem dX6_blocksBy_6 : decode cX6_blocksBy 6 = .ok (.getfield 52, 3) := by decide +kernel
theorem dX6_blocksBy_9 : decode cX6_blocksBy 9 = .ok (.iload_n 2, 1) := by decide +kernel
theorem dX6_blocksBy_10 : decode cX6_blocksBy 10 = .ok (.iaload, 1) := by decide +kernel
theorem dX6_blocksBy_11 : decode cX6_blocksBy 11 = .ok (.ireturn, 1) := by decide +kernel
set_option maxRecDepth 20000 in
theorem ggX6_blocks_X6_isMask : GoodIn wsX6_blocks wsX6_isMask := goodIn_r _ [5, 1, 6, 7, 4, 8] (by decide +kernel) (by decide +kernel)
set_option maxRecDepth 20000 in
theorem gX6_blocks_X6_isMask : GoodIn wsX6_blocks (va_wsS RX6 103 yX6_isMask wsX6_isMask) := goodIn_app (goodIn_of _ (by decide +kernel)) ggX6_blocks_X6_isMask
set_option maxRecDepth 20000 in
theorem ggX6_blocks_X6_in : GoodIn wsX6_blocks wsX6_in := goodIn_r _ [8] (by decide +kernel) (by decide +kernel)
set_option maxRecDepth 20000 in
theorem gX6_blocks_X6_in : GoodIn wsX6_blocks (va_wsS RX6 55 yX6_in wsX6_in) := goodIn_app (goodIn_of _ (by decide +kernel)) ggX6_blocks_X6_in
set_option maxRecDepth 20000 in
theorem ggX6_blocks_X6_blocksBy : GoodIn wsX6_blocks wsX6_blocksBy := goodIn_r _ [12, 13, 14, 15, 16, 4, 17, 18, 19, 20, 21, 22, 23, 24, 25, 26, 27, 28, 29, 30, 31, 32, 33, 34, 35, 36, 37, 38, 39, 40, 6, 7, 8, 41, 42, 43, 44, 45, 46, 47, 48, 49, 50, 51, 52, 53, 54, 55, 56, 57, 58, 59, 60, 61, 62, 63, 64, 65, 66, 67, 68, 69, 70, 71] (by decide +kernel) (by decide +kernel)
set_option maxRecDepth 20000 in
theorem gX6_blocks_X6_blocksBy : GoodIn wsX6_blocks (wsV RX6 186 RX6 yX6_blocksBy wsX6_blocksBy) := goodIn_app (goodIn_of _ (by decide +kernel)) ggX6_blocks_X6_blocksBy
theorem dX6_blocks_0 : decode cX6_blocks 0 = .ok (.iload_n 1, 1) := by decide +kernel
theorem dX6_blocks_1 : decode cX6_blocks 1 = .ok (.invokestatic 103, 3) := by decide +kernel
theorem dX6_blocks_4 : decode cX6_blocks 4 = .ok (.ifCond .eq 24, 3) := by decide +kernel
theorem dX6_blocks_7 : decode cX6_blocks 7 = .ok (.iload_n 2, 1) := by decide +kernel
theorem dX6_blocks_8 : decode cX6_blocks 8 = .ok (.i2l, 1) := by decide +kernel
theorem dX6_blocks_9 : decode cX6_blocks 9 = .ok (.lconst 0, 1) := by decide +kernel
theorem dX6_blocks_10 : decode cX6_blocks 10 = .ok (.ldc2_w 63, 3) := by decide +kernel
theorem dX6_blocks_13 : decode cX6_blocks 13 = .ok (.invokestatic 55, 3) := by decide +kernel
theorem dX6_blocks_16 : decode cX6_blocks 16 = .ok (.ifCond .eq 12, 3) := by decide +kernel
theorem dX6_blocks_19 : decode cX6_blocks 19 = .ok (.aload_n 0, 1) := by decide +kernel
theorem dX6_blocks_20 : decode cX6_blocks 20 = .ok (.iload_n 1, 1) := by decide +kernel
theorem dX6_blocks_21 : decode cX6_blocks 21 = .ok (.iload_n 2, 1) := by decide +kernel
theorem dX6_blocks_22 : decode cX6_blocks 22 = .ok (.invokevirtual 186, 3) := by decide +kernel
theorem dX6_blocks_25 : decode cX6_blocks 25 = .ok (.goto 5, 3) := by decide +kernel
theorem dX6_blocks_28 : decode cX6_blocks 28 = .ok (.bipush (-2), 2) := by decide +kernel
theorem dX6_blocks_30 : decode cX6_blocks 30 = .ok (.ireturn, 1) := by decide +kernel
theorem dX6_signBy_0 : decode cX6_signBy 0 = .ok (.iload_n 1, 1) := by decide +kernel
theorem dX6_signBy_1 : decode cX6_signBy 1 = .ok (.iconst (-1), 1) := by decide +kernel
theorem dX6_signBy_2 : decode cX6_signBy 2 = .ok (.if_icmp .ne 10, 3) := by decide +kernel
theorem dX6_signBy_5 : decode cX6_signBy 5 = .ok (.aload_n 0, 1) := by decide +kernel
theorem dX6_signBy_6 : decode cX6_signBy 6 = .ok (.getfield 174, 3) := by decide +kernel
theorem dX6_signBy_9 : decode cX6_signBy 9 = .ok (.goto 21, 3) := by decide +kernel
theorem dX6_signBy_12 : decode cX6_signBy 12 = .ok (.iload_n 1, 1) := by decide +kernel
theorem dX6_signBy_13 : decode cX6_signBy 13 = .ok (.aload_n 0, 1) := by decide +kernel
theorem dX6_signBy_14 : decode cX6_signBy 14 = .ok (.getfield 174, 3) := by decide +kernel
theorem dX6_signBy_17 : decode cX6_signBy 17 = .ok (.if_icmp .ge 12, 3) := by decide +kernel
theorem dX6_signBy_20 : decode cX6_signBy 20 = .ok (.aload_n 0, 1) := by decide +kernel
theorem dX6_signBy_21 : decode cX6_signBy 21 = .ok (.getfield 49, 3) := by decide +kernel
theorem dX6_signBy_24 : decode cX6_signBy 24 = .ok (.iload_n 1, 1) := by decide +kernel
theorem dX6_signBy_25 : decode cX6_signBy 25 = .ok (.iaload, 1) := by decide +kernel
theorem dX6_signBy_26 : decode cX6_signBy 26 = .ok (.goto 4, 3) := by decide +kernel
theorem dX6_signBy_29 : decode cX6_signBy 29 = .ok (.iconst (-1), 1) := by decide +kernel
theorem dX6_signBy_30 : decode cX6_signBy 30 = .ok (.ireturn, 1) := by decide +kernel
set_option maxRecDepth 20000 in
theorem ggX6_shownBy_X6_shows : GoodIn wsX6_shownBy wsX6_shows := goodIn_r _ [5, 6, 7, 8, 9, 10, 11, 12, 13, 14, 15, 4, 16, 17, 18, 19, 20, 21, 22, 23, 24, 25, 26, 27, 28, 29, 30, 31, 32, 33, 34, 35, 36, 37, 38, 39, 40, 41, 42, 47, 48, 49, 50, 51, 52, 53, 54, 55, 56, 57, 58, 59, 60, 61, 62, 63, 64, 65, 66, 67] (by decide +kernel) (by decide +kernel)
set_option maxRecDepth 20000 in
theorem gX6_shownBy_X6_shows : GoodIn wsX6_shownBy (wsV RX6 183 RX6 yX6_shows wsX6_shows) := goodIn_app (goodIn_of _ (by decide +kernel)) ggX6_shownBy_X6_shows
set_option maxRecDepth 20000 in
theorem ggX6_shownBy_X6_signBy : GoodIn wsX6_shownBy wsX6_signBy := goodIn_r _ [46, 6, 12, 47, 48, 49, 50, 51, 52, 53, 54, 55, 56, 57, 58, 59, 60, 61, 62, 63, 64, 65, 66, 67] (by decide +kernel) (by decide +kernel)
set_option maxRecDepth 20000 in
theorem gX6_shownBy_X6_signBy : GoodIn wsX6_shownBy (wsV RX6 189 RX6 yX6_signBy wsX6_signBy) := goodIn_app (goodIn_of _ (by decide +kernel)) ggX6_shownBy_X6_signBy
theorem dX6_shownBy_0 : decode cX6_shownBy 0 = .ok (.aload_n 0, 1) := by decide +kernel
theorem dX6_shownBy_1 : decode cX6_shownBy 1 = .ok (.iload_n 1, 1) := by decide +kernel
theorem dX6_shownBy_2 : decode cX6_shownBy 2 = .ok (.invokevirtual 183, 3) := by decide +kernel
theorem dX6_shownBy_5 : decode cX6_shownBy 5 = .ok (.aload_n 0, 1) := by decide +kernel
theorem dX6_shownBy_6 : decode cX6_shownBy 6 = .ok (.iload_n 2, 1) := by decide +kernel
theorem dX6_shownBy_7 : decode cX6_shownBy 7 = .ok (.invokevirtual 189, 3) := by decide +kernel
theorem dX6_shownBy_10 : decode cX6_shownBy 10 = .ok (.ireturn, 1) := by decide +kernel
set_option maxRecDepth 20000 in
theorem ggX6_shown_X6_isMask : GoodIn wsX6_shown wsX6_isMask := goodIn_r _ [6, 7, 8, 9, 5, 10] (by decide +kernel) (by decide +kernel)
set_option maxRecDepth 20000 in
theorem gX6_shown_X6_isMask : GoodIn wsX6_shown (va_wsS RX6 103 yX6_isMask wsX6_isMask) := goodIn_app (goodIn_of _ (by decide +kernel)) ggX6_shown_X6_isMask
set_option maxRecDepth 20000 in
theorem ggX6_shown_X6_in : GoodIn wsX6_shown wsX6_in := goodIn_r _ [10] (by decide +kernel) (by decide +kernel)
set_option maxRecDepth 20000 in
theorem gX6_shown_X6_in : GoodIn wsX6_shown (va_wsS RX6 55 yX6_in wsX6_in) := goodIn_app (goodIn_of _ (by decide +kernel)) ggX6_shown_X6_in
set_option maxRecDepth 20000 in
theorem ggX6_shown_X6_shownBy : GoodIn wsX6_shown wsX6_shownBy := goodIn_r _ [14, 15, 16, 17, 5, 18, 19, 20, 21, 22, 23, 24, 25, 26, 27, 28, 29, 30, 31, 32, 33, 34, 35, 36, 37, 38, 39, 40, 41, 42, 8, 9, 10, 43, 44, 45, 46, 47, 48, 49, 50, 51, 52, 53, 54, 55, 56, 57, 58, 59, 60, 61, 62, 63, 64, 65, 66, 67, 68, 69, 70, 71, 72, 73, 74, 75, 76, 77] (by decide +kernel) (by decide +kernel)
set_option maxRecDepth 20000 in
theorem gX6_shown_X6_shownBy : GoodIn wsX6_shown (wsV RX6 196 RX6 yX6_shownBy wsX6_shownBy) := goodIn_app (goodIn_of _ (by decide +kernel)) ggX6_shown_X6_shownBy
theorem dX6_shown_0 : decode cX6_shown 0 = .ok (.iload_n 1, 1) := by decide +kernel
theorem dX6_shown_1 : decode cX6_shown 1 = .ok (.invokestatic 103, 3) := by decide +kernel
theorem dX6_shown_4 : decode cX6_shown 4 = .ok (.ifCond .eq 26, 3) := by decide +kernel
theorem dX6_shown_7 : decode cX6_shown 7 = .ok (.iload_n 2, 1) := by decide +kernel
theorem dX6_shown_8 : decode cX6_shown 8 = .ok (.i2l, 1) := by decide +kernel
theorem dX6_shown_9 : decode cX6_shown 9 = .ok (.ldc2_w 192, 3) := by decide +kernel
theorem dX6_shown_12 : decode cX6_shown 12 = .ok (.ldc2_w 194, 3) := by decide +kernel
theorem dX6_shown_15 : decode cX6_shown 15 = .ok (.invokestatic 55, 3) := by decide +kernel
theorem dX6_shown_18 : decode cX6_shown 18 = .ok (.ifCond .eq 12, 3) := by decide +kernel
theorem dX6_shown_21 : decode cX6_shown 21 = .ok (.aload_n 0, 1) := by decide +kernel
theorem dX6_shown_22 : decode cX6_shown 22 = .ok (.iload_n 1, 1) := by decide +kernel
theorem dX6_shown_23 : decode cX6_shown 23 = .ok (.iload_n 2, 1) := by decide +kernel
theorem dX6_shown_24 : decode cX6_shown 24 = .ok (.invokevirtual 196, 3) := by decide +kernel
theorem dX6_shown_27 : decode cX6_shown 27 = .ok (.goto 5, 3) := by decide +kernel
theorem dX6_shown_30 : decode cX6_shown 30 = .ok (.bipush (-2), 2) := by decide +kernel
theorem dX6_shown_32 : decode cX6_shown 32 = .ok (.ireturn, 1) := by decide +kernel
set_option maxRecDepth 20000 in
theorem ggX6_borderAt_X6_dark : GoodIn wsX6_borderAt wsX6_dark := goodIn_r _ [5, 6, 7, 8, 4, 9, 10, 11, 12, 13, 14, 15, 16, 17, 18, 19, 20, 21, 22, 23, 24, 25, 26, 27, 28, 29, 30, 31, 32, 33, 34] (by decide +kernel) (by decide +kernel)
set_option maxRecDepth 20000 in
theorem gX6_borderAt_X6_dark : GoodIn wsX6_borderAt (wsV RX6 90 RX6 yX6_dark wsX6_dark) := goodIn_app (goodIn_of _ (by decide +kernel)) ggX6_borderAt_X6_dark
theorem dX6_borderAt_0 : decode cX6_borderAt 0 = .ok (.iload_n 2, 1) := by decide +kernel
theorem dX6_borderAt_1 : decode cX6_borderAt 1 = .ok (.bipush 16, 2) := by decide +kernel
theorem dX6_borderAt_3 : decode cX6_borderAt 3 = .ok (.irem, 1) := by decide +kernel
theorem dX6_borderAt_4 : decode cX6_borderAt 4 = .ok (.istore_n 3, 1) := by decide +kernel
theorem dX6_borderAt_5 : decode cX6_borderAt 5 = .ok (.iload_n 2, 1) := by decide +kernel
theorem dX6_borderAt_6 : decode cX6_borderAt 6 = .ok (.bipush 16, 2) := by decide +kernel
theorem dX6_borderAt_8 : decode cX6_borderAt 8 = .ok (.idiv, 1) := by decide +kernel
theorem dX6_borderAt_9 : decode cX6_borderAt 9 = .ok (.istore 4, 2) := by decide +kernel
theorem dX6_borderAt_11 : decode cX6_borderAt 11 = .ok (.aload_n 0, 1) := by decide +kernel
theorem dX6_borderAt_12 : decode cX6_borderAt 12 = .ok (.iload_n 1, 1) := by decide +kernel
theorem dX6_borderAt_13 : decode cX6_borderAt 13 = .ok (.iload_n 3, 1) := by decide +kernel
theorem dX6_borderAt_14 : decode cX6_borderAt 14 = .ok (.iload 4, 2) := by decide +kernel
theorem dX6_borderAt_16 : decode cX6_borderAt 16 = .ok (.invokevirtual 90, 3) := by decide +kernel
theorem dX6_borderAt_19 : decode cX6_borderAt 19 = .ok (.ifCond .ne 7, 3) := by decide +kernel
theorem dX6_borderAt_22 : decode cX6_borderAt 22 = .ok (.iconst 0, 1) := by decide +kernel
theorem dX6_borderAt_23 : decode cX6_borderAt 23 = .ok (.goto 48, 3) := by decide +kernel
theorem dX6_borderAt_26 : decode cX6_borderAt 26 = .ok (.iconst 4, 1) := by decide +kernel
theorem dX6_borderAt_27 : decode cX6_borderAt 27 = .ok (.aload_n 0, 1) := by decide +kernel
theorem dX6_borderAt_28 : decode cX6_borderAt 28 = .ok (.iload_n 1, 1) := by decide +kernel
theorem dX6_borderAt_29 : decode cX6_borderAt 29 = .ok (.iload_n 3, 1) := by decide +kernel
theorem dX6_borderAt_30 : decode cX6_borderAt 30 = .ok (.iconst 1, 1) := by decide +kernel
theorem dX6_borderAt_31 : decode cX6_borderAt 31 = .ok (.iadd, 1) := by decide +kernel
theorem dX6_borderAt_32 : decode cX6_borderAt 32 = .ok (.iload 4, 2) := by decide +kernel
theorem dX6_borderAt_34 : decode cX6_borderAt 34 = .ok (.invokevirtual 90, 3) := by decide +kernel
theorem dX6_borderAt_37 : decode cX6_borderAt 37 = .ok (.isub, 1) := by decide +kernel
theorem dX6_borderAt_38 : decode cX6_borderAt 38 = .ok (.aload_n 0, 1) := by decide +kernel
theorem dX6_borderAt_39 : decode cX6_borderAt 39 = .ok (.iload_n 1, 1) := by decide +kernel
theorem dX6_borderAt_40 : decode cX6_borderAt 40 = .ok (.iload_n 3, 1) := by decide +kernel
theorem dX6_borderAt_41 : decode cX6_borderAt 41 = .ok (.iconst 1, 1) := by decide +kernel
theorem dX6_borderAt_42 : decode cX6_borderAt 42 = .ok (.isub, 1) := by decide +kernel
theorem dX6_borderAt_43 : decode cX6_borderAt 43 = .ok (.iload 4, 2) := by decide +kernel
theorem dX6_borderAt_45 : decode cX6_borderAt 45 = .ok (.invokevirtual 90, 3) := by decide +kernel
theorem dX6_borderAt_48 : decode cX6_borderAt 48 = .ok (.isub, 1) := by decide +kernel
theorem dX6_borderAt_49 : decode cX6_borderAt 49 = .ok (.aload_n 0, 1) := by decide +kernel
theorem dX6_borderAt_50 : decode cX6_borderAt 50 = .ok (.iload_n 1, 1) := by decide +kernel
theorem dX6_borderAt_51 : decode cX6_borderAt 51 = .ok (.iload_n 3, 1) := by decide +kernel
theorem dX6_borderAt_52 : decode cX6_borderAt 52 = .ok (.iload 4, 2) := by decide +kernel
theorem dX6_borderAt_54 : decode cX6_borderAt 54 = .ok (.iconst 1, 1) := by decide +kernel
theorem dX6_borderAt_55 : decode cX6_borderAt 55 = .ok (.iadd, 1) := by decide +kernel
theorem dX6_borderAt_56 : decode cX6_borderAt 56 = .ok (.invokevirtual 90, 3) := by decide +kernel
theorem dX6_borderAt_59 : decode cX6_borderAt 59 = .ok (.isub, 1) := by decide +kernel
theorem dX6_borderAt_60 : decode cX6_borderAt 60 = .ok (.aload_n 0, 1) := by decide +kernel
theorem dX6_borderAt_61 : decode cX6_borderAt 61 = .ok (.iload_n 1, 1) := by decide +kernel
theorem dX6_borderAt_62 : decode cX6_borderAt 62 = .ok (.iload_n 3, 1) := by decide +kernel
theorem dX6_borderAt_63 : decode cX6_borderAt 63 = .ok (.iload 4, 2) := by decide +kernel
theorem dX6_borderAt_65 : decode cX6_borderAt 65 = .ok (.iconst 1, 1) := by decide +kernel
theorem dX6_borderAt_66 : decode cX6_borderAt 66 = .ok (.isub, 1) := by decide +kernel
theorem dX6_borderAt_67 : decode cX6_borderAt 67 = .ok (.invokevirtual 90, 3) := by decide +kernel
theorem dX6_borderAt_70 : decode cX6_borderAt 70 = .ok (.isub, 1) := by decide +kernel
theorem dX6_borderAt_71 : decode cX6_borderAt 71 = .ok (.ireturn, 1) := by decide +kernel
set_option maxRecDepth 20000 in
theorem ggX6_holesOf_X6_labels : GoodIn wsX6_holesOf wsX6_labels := goodIn_r _ [7, 1, 2, 8, 9, 10, 6, 11, 12, 13, 14, 15, 16, 17, 18, 19, 20, 21, 22, 23, 24, 25, 26, 27, 28, 29, 30, 31, 32, 33, 34, 35, 36, 37, 38, 39, 40, 41, 42, 43, 44, 45] (by decide +kernel) (by decide +kernel)
set_option maxRecDepth 20000 in
theorem gX6_holesOf_X6_labels : GoodIn wsX6_holesOf (wsV RX6 150 RX6 yX6_labels wsX6_labels) := goodIn_app (goodIn_of _ (by decide +kernel)) ggX6_holesOf_X6_labels
theorem dX6_holesOf_0 : decode cX6_holesOf 0 = .ok (.aload_n 0, 1) := by decide +kernel
theorem dX6_holesOf_1 : decode cX6_holesOf 1 = .ok (.iload_n 1, 1) := by decide +kernel
theorem dX6_holesOf_2 : decode cX6_holesOf 2 = .ok (.iconst 0, 1) := by decide +kernel
theorem dX6_holesOf_3 : decode cX6_holesOf 3 = .ok (.invokevirtual 150, 3) := by decide +kernel
theorem dX6_holesOf_6 : decode cX6_holesOf 6 = .ok (.iconst 0, 1) := by decide +kernel
theorem dX6_holesOf_7 : decode cX6_holesOf 7 = .ok (.istore_n 2, 1) := by decide +kernel
theorem dX6_holesOf_8 : decode cX6_holesOf 8 = .ok (.iconst 0, 1) := by decide +kernel
theorem dX6_holesOf_9 : decode cX6_holesOf 9 = .ok (.istore_n 3, 1) := by decide +kernel
theorem dX6_holesOf_10 : decode cX6_holesOf 10 = .ok (.iload_n 3, 1) := by decide +kernel
theorem dX6_holesOf_11 : decode cX6_holesOf 11 = .ok (.aload_n 0, 1) := by decide +kernel
theorem dX6_holesOf_12 : decode cX6_holesOf 12 = .ok (.getfield 144, 3) := by decide +kernel
theorem dX6_holesOf_15 : decode cX6_holesOf 15 = .ok (.if_icmp .ge 110, 3) := by decide +kernel
theorem dX6_holesOf_18 : decode cX6_holesOf 18 = .ok (.iconst 1, 1) := by decide +kernel
theorem dX6_holesOf_19 : decode cX6_holesOf 19 = .ok (.istore 4, 2) := by decide +kernel
theorem dX6_holesOf_21 : decode cX6_holesOf 21 = .ok (.iconst 0, 1) := by decide +kernel
theorem dX6_holesOf_22 : decode cX6_holesOf 22 = .ok (.istore 5, 2) := by decide +kernel
theorem dX6_holesOf_24 : decode cX6_holesOf 24 = .ok (.iload 5, 2) := by decide +kernel
theorem dX6_holesOf_26 : decode cX6_holesOf 26 = .ok (.sipush 256, 3) := by decide +kernel
theorem dX6_holesOf_29 : decode cX6_holesOf 29 = .ok (.if_icmp .ge 77, 3) := by decide +kernel
theorem dX6_holesOf_32 : decode cX6_holesOf 32 = .ok (.iload 5, 2) := by decide +kernel
theorem dX6_holesOf_34 : decode cX6_holesOf 34 = .ok (.bipush 16, 2) := by decide +kernel
theorem dX6_holesOf_36 : decode cX6_holesOf 36 = .ok (.irem, 1) := by decide +kernel
theorem dX6_holesOf_37 : decode cX6_holesOf 37 = .ok (.ifCond .eq 28, 3) := by decide +kernel
theorem dX6_holesOf_40 : decode cX6_holesOf 40 = .ok (.iload 5, 2) := by decide +kernel
theorem dX6_holesOf_42 : decode cX6_holesOf 42 = .ok (.bipush 16, 2) := by decide +kernel
theorem dX6_holesOf_44 : decode cX6_holesOf 44 = .ok (.irem, 1) := by decide +kernel
theorem dX6_holesOf_45 : decode cX6_holesOf 45 = .ok (.bipush 15, 2) := by decide +kernel
theorem dX6_holesOf_47 : decode cX6_holesOf 47 = .ok (.if_icmp .eq 18, 3) := by decide +kernel
theorem dX6_holesOf_50 : decode cX6_holesOf 50 = .ok (.iload 5, 2) := by decide +kernel
theorem dX6_holesOf_52 : decode cX6_holesOf 52 = .ok (.bipush 16, 2) := by decide +kernel
theorem dX6_holesOf_54 : decode cX6_holesOf 54 = .ok (.if_icmp .lt 11, 3) := by decide +kernel
theorem dX6_holesOf_57 : decode cX6_holesOf 57 = .ok (.iload 5, 2) := by decide +kernel
theorem dX6_holesOf_59 : decode cX6_holesOf 59 = .ok (.sipush 239, 3) := by decide +kernel
theorem dX6_holesOf_62 : decode cX6_holesOf 62 = .ok (.if_icmp .le 7, 3) := by decide +kernel
theorem dX6_holesOf_65 : decode cX6_holesOf 65 = .ok (.iconst 1, 1) := by decide +kernel
theorem dX6_holesOf_66 : decode cX6_holesOf 66 = .ok (.goto 4, 3) := by decide +kernel
theorem dX6_holesOf_69 : decode cX6_holesOf 69 = .ok (.iconst 0, 1) := by decide +kernel
theorem dX6_holesOf_70 : decode cX6_holesOf 70 = .ok (.istore 6, 2) := by decide +kernel
theorem dX6_holesOf_72 : decode cX6_holesOf 72 = .ok (.iload 4, 2) := by decide +kernel
theorem dX6_holesOf_74 : decode cX6_holesOf 74 = .ok (.ifCond .eq 23, 3) := by decide +kernel
theorem dX6_holesOf_77 : decode cX6_holesOf 77 = .ok (.aload_n 0, 1) := by decide +kernel
theorem dX6_holesOf_78 : decode cX6_holesOf 78 = .ok (.getfield 34, 3) := by decide +kernel
theorem dX6_holesOf_81 : decode cX6_holesOf 81 = .ok (.iload 5, 2) := by decide +kernel
theorem dX6_holesOf_83 : decode cX6_holesOf 83 = .ok (.iaload, 1) := by decide +kernel
theorem dX6_holesOf_84 : decode cX6_holesOf 84 = .ok (.iload_n 3, 1) := by decide +kernel
theorem dX6_holesOf_85 : decode cX6_holesOf 85 = .ok (.if_icmp .ne 8, 3) := by decide +kernel
theorem dX6_holesOf_88 : decode cX6_holesOf 88 = .ok (.iload 6, 2) := by decide +kernel
theorem dX6_holesOf_90 : decode cX6_holesOf 90 = .ok (.ifCond .ne 7, 3) := by decide +kernel
theorem dX6_holesOf_93 : decode cX6_holesOf 93 = .ok (.iconst 1, 1) := by decide +kernel
theorem dX6_holesOf_94 : decode cX6_holesOf 94 = .ok (.goto 4, 3) := by decide +kernel
theorem dX6_holesOf_97 : decode cX6_holesOf 97 = .ok (.iconst 0, 1) := by decide +kernel
theorem dX6_holesOf_98 : decode cX6_holesOf 98 = .ok (.istore 4, 2) := by decide +kernel
theorem dX6_holesOf_100 : decode cX6_holesOf 100 = .ok (.iinc 5 1, 3) := by decide +kernel
theorem dX6_holesOf_103 : decode cX6_holesOf 103 = .ok (.goto (-79), 3) := by decide +kernel
theorem dX6_holesOf_106 : decode cX6_holesOf 106 = .ok (.iload_n 2, 1) := by decide +kernel
theorem dX6_holesOf_107 : decode cX6_holesOf 107 = .ok (.iload 4, 2) := by decide +kernel
theorem dX6_holesOf_109 : decode cX6_holesOf 109 = .ok (.ifCond .eq 7, 3) := by decide +kernel
theorem dX6_holesOf_112 : decode cX6_holesOf 112 = .ok (.iconst 1, 1) := by decide +kernel
theorem dX6_holesOf_113 : decode cX6_holesOf 113 = .ok (.goto 4, 3) := by decide +kernel
theorem dX6_holesOf_116 : decode cX6_holesOf 116 = .ok (.iconst 0, 1) := by decide +kernel
theorem dX6_holesOf_117 : decode cX6_holesOf 117 = .ok (.iadd, 1) := by decide +kernel
theorem dX6_holesOf_118 : decode cX6_holesOf 118 = .ok (.istore_n 2, 1) := by decide +kernel
theorem dX6_holesOf_119 : decode cX6_holesOf 119 = .ok (.iinc 3 1, 3) := by decide +kernel
theorem dX6_holesOf_122 : decode cX6_holesOf 122 = .ok (.goto (-112), 3) := by decide +kernel
theorem dX6_holesOf_125 : decode cX6_holesOf 125 = .ok (.iload_n 2, 1) := by decide +kernel
theorem dX6_holesOf_126 : decode cX6_holesOf 126 = .ok (.ireturn, 1) := by decide +kernel
set_option maxRecDepth 20000 in
theorem ggX6_partsOf_X6_labels : GoodIn wsX6_partsOf wsX6_labels := goodIn_r _ [6, 1, 7, 8, 9, 10, 5, 11, 12, 13, 14, 15, 16, 17, 18, 19, 20, 21, 22, 23, 24, 25, 26, 27, 28, 29, 30, 31, 32, 33, 34, 35, 36, 37, 38, 39, 40, 41, 42, 43, 44, 45] (by decide +kernel) (by decide +kernel)
set_option maxRecDepth 20000 in
theorem gX6_partsOf_X6_labels : GoodIn wsX6_partsOf (wsV RX6 150 RX6 yX6_labels wsX6_labels) := goodIn_app (goodIn_of _ (by decide +kernel)) ggX6_partsOf_X6_labels
theorem dX6_partsOf_0 : decode cX6_partsOf 0 = .ok (.aload_n 0, 1) := by decide +kernel
theorem dX6_partsOf_1 : decode cX6_partsOf 1 = .ok (.iload_n 1, 1) := by decide +kernel
theorem dX6_partsOf_2 : decode cX6_partsOf 2 = .ok (.iconst 1, 1) := by decide +kernel
theorem dX6_partsOf_3 : decode cX6_partsOf 3 = .ok (.invokevirtual 150, 3) := by decide +kernel
theorem dX6_partsOf_6 : decode cX6_partsOf 6 = .ok (.aload_n 0, 1) := by decide +kernel
theorem dX6_partsOf_7 : decode cX6_partsOf 7 = .ok (.getfield 144, 3) := by decide +kernel
theorem dX6_partsOf_10 : decode cX6_partsOf 10 = .ok (.ireturn, 1) := by decide +kernel
set_option maxRecDepth 20000 in
theorem ggX6_borderOf_X6_borderAt : GoodIn wsX6_borderOf wsX6_borderAt := goodIn_r _ [5, 6, 7, 8, 4, 9, 10, 11, 12, 13, 14, 15, 16, 17, 18, 19, 20, 21, 22, 23, 24, 25, 26, 27, 28, 29, 30, 31, 32, 33, 34, 35, 36, 37, 38] (by decide +kernel) (by decide +kernel)
set_option maxRecDepth 20000 in
theorem gX6_borderOf_X6_borderAt : GoodIn wsX6_borderOf (wsV RX6 199 RX6 yX6_borderAt wsX6_borderAt) := goodIn_app (goodIn_of _ (by decide +kernel)) ggX6_borderOf_X6_borderAt
theorem dX6_borderOf_0 : decode cX6_borderOf 0 = .ok (.iconst 0, 1) := by decide +kernel
theorem dX6_borderOf_1 : decode cX6_borderOf 1 = .ok (.istore_n 2, 1) := by decide +kernel
theorem dX6_borderOf_2 : decode cX6_borderOf 2 = .ok (.iconst 0, 1) := by decide +kernel
theorem dX6_borderOf_3 : decode cX6_borderOf 3 = .ok (.istore_n 3, 1) := by decide +kernel
theorem dX6_borderOf_4 : decode cX6_borderOf 4 = .ok (.iload_n 3, 1) := by decide +kernel
theorem dX6_borderOf_5 : decode cX6_borderOf 5 = .ok (.sipush 256, 3) := by decide +kernel
theorem dX6_borderOf_8 : decode cX6_borderOf 8 = .ok (.if_icmp .ge 18, 3) := by decide +kernel
theorem dX6_borderOf_11 : decode cX6_borderOf 11 = .ok (.iload_n 2, 1) := by decide +kernel
theorem dX6_borderOf_12 : decode cX6_borderOf 12 = .ok (.aload_n 0, 1) := by decide +kernel
theorem dX6_borderOf_13 : decode cX6_borderOf 13 = .ok (.iload_n 1, 1) := by decide +kernel
theorem dX6_borderOf_14 : decode cX6_borderOf 14 = .ok (.iload_n 3, 1) := by decide +kernel
theorem dX6_borderOf_15 : decode cX6_borderOf 15 = .ok (.invokevirtual 199, 3) := by decide +kernel
theorem dX6_borderOf_18 : decode cX6_borderOf 18 = .ok (.iadd, 1) := by decide +kernel
theorem dX6_borderOf_19 : decode cX6_borderOf 19 = .ok (.istore_n 2, 1) := by decide +kernel
theorem dX6_borderOf_20 : decode cX6_borderOf 20 = .ok (.iinc 3 1, 3) := by decide +kernel
theorem dX6_borderOf_23 : decode cX6_borderOf 23 = .ok (.goto (-19), 3) := by decide +kernel
theorem dX6_borderOf_26 : decode cX6_borderOf 26 = .ok (.iload_n 2, 1) := by decide +kernel
theorem dX6_borderOf_27 : decode cX6_borderOf 27 = .ok (.ireturn, 1) := by decide +kernel
set_option maxRecDepth 20000 in
theorem ggX6_allBy_X6_partsOf : GoodIn wsX6_allBy wsX6_partsOf := goodIn_r _ [5, 6, 7, 8, 9, 4, 10, 11, 12, 13, 14, 15, 16, 17, 18, 19, 20, 21, 22, 23, 24, 25, 26, 27, 28, 45, 46, 47, 48, 49, 50, 51, 52, 53, 54, 55, 56, 57, 58, 59, 60, 61, 62, 63, 64, 65] (by decide +kernel) (by decide +kernel)
set_option maxRecDepth 20000 in
theorem gX6_allBy_X6_partsOf : GoodIn wsX6_allBy (wsV RX6 202 RX6 yX6_partsOf wsX6_partsOf) := goodIn_app (goodIn_of _ (by decide +kernel)) ggX6_allBy_X6_partsOf
set_option maxRecDepth 20000 in
theorem ggX6_allBy_X6_borderOf : GoodIn wsX6_allBy wsX6_borderOf := goodIn_r _ [32, 33, 34, 35, 4, 36, 12, 13, 14, 15, 16, 17, 18, 19, 20, 21, 22, 23, 45, 46, 47, 48, 49, 50, 51, 52, 53, 54, 55, 56, 57, 58, 59, 60, 61, 62, 63, 64, 65] (by decide +kernel) (by decide +kernel)
set_option maxRecDepth 20000 in
theorem gX6_allBy_X6_borderOf : GoodIn wsX6_allBy (wsV RX6 205 RX6 yX6_borderOf wsX6_borderOf) := goodIn_app (goodIn_of _ (by decide +kernel)) ggX6_allBy_X6_borderOf
set_option maxRecDepth 20000 in
theorem ggX6_allBy_X6_holesOf : GoodIn wsX6_allBy wsX6_holesOf := goodIn_r _ [40, 6, 11, 7, 8, 9, 4, 10, 12, 13, 14, 15, 16, 17, 18, 19, 20, 21, 22, 23, 24, 25, 26, 27, 28, 45, 46, 47, 48, 49, 50, 51, 52, 53, 54, 55, 56, 57, 58, 59, 60, 61, 62, 63, 64, 65] (by decide +kernel) (by decide +kernel)
set_option maxRecDepth 20000 in
theorem gX6_allBy_X6_holesOf : GoodIn wsX6_allBy (wsV RX6 208 RX6 yX6_holesOf wsX6_holesOf) := goodIn_app (goodIn_of _ (by decide +kernel)) ggX6_allBy_X6_holesOf
set_option maxRecDepth 20000 in
theorem ggX6_allBy_X6_darkOf : GoodIn wsX6_allBy wsX6_darkOf := goodIn_r _ [44, 12, 13, 14, 4, 15, 16, 17, 18, 19, 20, 21, 22, 23, 45, 46, 47, 48, 49, 50, 51, 52, 53, 54, 55, 56, 57, 58, 59, 60, 61, 62, 63, 64, 65] (by decide +kernel) (by decide +kernel)
set_option maxRecDepth 20000 in
theorem gX6_allBy_X6_darkOf : GoodIn wsX6_allBy (wsV RX6 100 RX6 yX6_darkOf wsX6_darkOf) := goodIn_app (goodIn_of _ (by decide +kernel)) ggX6_allBy_X6_darkOf
theorem dX6_allBy_0 : decode cX6_allBy 0 = .ok (.iload_n 2, 1) := by decide +kernel
theorem dX6_allBy_1 : decode cX6_allBy 1 = .ok (.ifCond .ne 11, 3) := by decide +kernel
theorem dX6_allBy_4 : decode cX6_allBy 4 = .ok (.aload_n 0, 1) := by decide +kernel
theorem dX6_allBy_5 : decode cX6_allBy 5 = .ok (.iload_n 1, 1) := by decide +kernel
theorem dX6_allBy_6 : decode cX6_allBy 6 = .ok (.invokevirtual 202, 3) := by decide +kernel
theorem dX6_allBy_9 : decode cX6_allBy 9 = .ok (.goto 34, 3) := by decide +kernel
theorem dX6_allBy_12 : decode cX6_allBy 12 = .ok (.iload_n 2, 1) := by decide +kernel
theorem dX6_allBy_13 : decode cX6_allBy 13 = .ok (.iconst 1, 1) := by decide +kernel
theorem dX6_allBy_14 : decode cX6_allBy 14 = .ok (.if_icmp .ne 11, 3) := by decide +kernel
theorem dX6_allBy_17 : decode cX6_allBy 17 = .ok (.aload_n 0, 1) := by decide +kernel
theorem dX6_allBy_18 : decode cX6_allBy 18 = .ok (.iload_n 1, 1) := by decide +kernel
theorem dX6_allBy_19 : decode cX6_allBy 19 = .ok (.invokevirtual 205, 3) := by decide +kernel
theorem dX6_allBy_22 : decode cX6_allBy 22 = .ok (.goto 21, 3) := by decide +kernel
theorem dX6_allBy_25 : decode cX6_allBy 25 = .ok (.iload_n 2, 1) := by decide +kernel
theorem dX6_allBy_26 : decode cX6_allBy 26 = .ok (.iconst 2, 1) := by decide +kernel
theorem dX6_allBy_27 : decode cX6_allBy 27 = .ok (.if_icmp .ne 11, 3) := by decide +kernel
theorem dX6_allBy_30 : decode cX6_allBy 30 = .ok (.aload_n 0, 1) := by decide +kernel
theorem dX6_allBy_31 : decode cX6_allBy 31 = .ok (.iload_n 1, 1) := by decide +kernel
theorem dX6_allBy_32 : decode cX6_allBy 32 = .ok (.invokevirtual 208, 3) := by decide +kernel
theorem dX6_allBy_35 : decode cX6_allBy 35 = .ok (.goto 8, 3) := by decide +kernel
theorem dX6_allBy_38 : decode cX6_allBy 38 = .ok (.aload_n 0, 1) := by decide +kernel
theorem dX6_allBy_39 : decode cX6_allBy 39 = .ok (.iload_n 1, 1) := by decide +kernel
theorem dX6_allBy_40 : decode cX6_allBy 40 = .ok (.invokevirtual 100, 3) := by decide +kernel
theorem dX6_allBy_43 : decode cX6_allBy 43 = .ok (.ireturn, 1) := by decide +kernel
set_option maxRecDepth 20000 in
theorem ggX6_all_X6_isMask : GoodIn wsX6_all wsX6_isMask := goodIn_r _ [5, 1, 6, 7, 4, 8] (by decide +kernel) (by decide +kernel)
set_option maxRecDepth 20000 in
theorem gX6_all_X6_isMask : GoodIn wsX6_all (va_wsS RX6 103 yX6_isMask wsX6_isMask) := goodIn_app (goodIn_of _ (by decide +kernel)) ggX6_all_X6_isMask
set_option maxRecDepth 20000 in
theorem ggX6_all_X6_in : GoodIn wsX6_all wsX6_in := goodIn_r _ [8] (by decide +kernel) (by decide +kernel)
set_option maxRecDepth 20000 in
theorem gX6_all_X6_in : GoodIn wsX6_all (va_wsS RX6 55 yX6_in wsX6_in) := goodIn_app (goodIn_of _ (by decide +kernel)) ggX6_all_X6_in
set_option maxRecDepth 20000 in
theorem ggX6_all_X6_allBy : GoodIn wsX6_all wsX6_allBy := goodIn_r _ [12, 13, 14, 15, 4, 16, 17, 18, 19, 20, 21, 22, 23, 24, 25, 26, 27, 28, 29, 30, 31, 6, 7, 8, 32, 33, 34, 35, 36, 37, 38, 39, 40, 41, 42, 43, 44, 45, 46, 47, 48, 49, 50, 51, 52, 53, 54, 55, 56, 57, 58, 59, 60, 61, 62, 63, 64, 65, 66, 67, 68, 69, 70, 71, 72, 73] (by decide +kernel) (by decide +kernel)
set_option maxRecDepth 20000 in
theorem gX6_all_X6_allBy : GoodIn wsX6_all (wsV RX6 211 RX6 yX6_allBy wsX6_allBy) := goodIn_app (goodIn_of _ (by decide +kernel)) ggX6_all_X6_allBy
theorem dX6_all_0 : decode cX6_all 0 = .ok (.iload_n 1, 1) := by decide +kernel
theorem dX6_all_1 : decode cX6_all 1 = .ok (.invokestatic 103, 3) := by decide +kernel
theorem dX6_all_4 : decode cX6_all 4 = .ok (.ifCond .eq 24, 3) := by decide +kernel
theorem dX6_all_7 : decode cX6_all 7 = .ok (.iload_n 2, 1) := by decide +kernel
theorem dX6_all_8 : decode cX6_all 8 = .ok (.i2l, 1) := by decide +kernel
theorem dX6_all_9 : decode cX6_all 9 = .ok (.lconst 0, 1) := by decide +kernel
theorem dX6_all_10 : decode cX6_all 10 = .ok (.ldc2_w 63, 3) := by decide +kernel
theorem dX6_all_13 : decode cX6_all 13 = .ok (.invokestatic 55, 3) := by decide +kernel
theorem dX6_all_16 : decode cX6_all 16 = .ok (.ifCond .eq 12, 3) := by decide +kernel
theorem dX6_all_19 : decode cX6_all 19 = .ok (.aload_n 0, 1) := by decide +kernel
theorem dX6_all_20 : decode cX6_all 20 = .ok (.iload_n 1, 1) := by decide +kernel
theorem dX6_all_21 : decode cX6_all 21 = .ok (.iload_n 2, 1) := by decide +kernel
theorem dX6_all_22 : decode cX6_all 22 = .ok (.invokevirtual 211, 3) := by decide +kernel
theorem dX6_all_25 : decode cX6_all 25 = .ok (.goto 5, 3) := by decide +kernel
theorem dX6_all_28 : decode cX6_all 28 = .ok (.bipush (-2), 2) := by decide +kernel
theorem dX6_all_30 : decode cX6_all 30 = .ok (.ireturn, 1) := by decide +kernel
set_option maxRecDepth 20000 in
theorem ggX6_label_X6_isMask : GoodIn wsX6_label wsX6_isMask := goodIn_r _ [5, 6, 7, 8, 4, 9] (by decide +kernel) (by decide +kernel)
set_option maxRecDepth 20000 in
theorem gX6_label_X6_isMask : GoodIn wsX6_label (va_wsS RX6 103 yX6_isMask wsX6_isMask) := goodIn_app (goodIn_of _ (by decide +kernel)) ggX6_label_X6_isMask
set_option maxRecDepth 20000 in
theorem ggX6_label_X6_isCell : GoodIn wsX6_label wsX6_isCell := goodIn_r _ [12, 13, 7, 8, 4, 9] (by decide +kernel) (by decide +kernel)
set_option maxRecDepth 20000 in
theorem gX6_label_X6_isCell : GoodIn wsX6_label (va_wsS RX6 86 yX6_isCell wsX6_isCell) := goodIn_app (goodIn_of _ (by decide +kernel)) ggX6_label_X6_isCell
set_option maxRecDepth 20000 in
theorem ggX6_label_X6_labels : GoodIn wsX6_label wsX6_labels := goodIn_r _ [17, 18, 1, 19, 20, 21, 4, 22, 23, 10, 11, 12, 13, 7, 8, 9, 24, 25, 26, 27, 28, 29, 30, 31, 32, 33, 34, 35, 36, 37, 38, 39, 40, 41, 42, 43, 44, 45, 46, 47, 48, 49] (by decide +kernel) (by decide +kernel)
set_option maxRecDepth 20000 in
theorem gX6_label_X6_labels : GoodIn wsX6_label (wsV RX6 150 RX6 yX6_labels wsX6_labels) := goodIn_app (goodIn_of _ (by decide +kernel)) ggX6_label_X6_labels
theorem dX6_label_0 : decode cX6_label 0 = .ok (.iload_n 1, 1) := by decide +kernel
theorem dX6_label_1 : decode cX6_label 1 = .ok (.invokestatic 103, 3) := by decide +kernel
theorem dX6_label_4 : decode cX6_label 4 = .ok (.ifCond .eq 11, 3) := by decide +kernel
theorem dX6_label_7 : decode cX6_label 7 = .ok (.iload_n 2, 1) := by decide +kernel
theorem dX6_label_8 : decode cX6_label 8 = .ok (.iload_n 3, 1) := by decide +kernel
theorem dX6_label_9 : decode cX6_label 9 = .ok (.invokestatic 86, 3) := by decide +kernel
theorem dX6_label_12 : decode cX6_label 12 = .ok (.ifCond .ne 6, 3) := by decide +kernel
theorem dX6_label_15 : decode cX6_label 15 = .ok (.bipush (-2), 2) := by decide +kernel
theorem dX6_label_17 : decode cX6_label 17 = .ok (.ireturn, 1) := by decide +kernel
theorem dX6_label_18 : decode cX6_label 18 = .ok (.aload_n 0, 1) := by decide +kernel
theorem dX6_label_19 : decode cX6_label 19 = .ok (.iload_n 1, 1) := by decide +kernel
theorem dX6_label_20 : decode cX6_label 20 = .ok (.iconst 1, 1) := by decide +kernel
theorem dX6_label_21 : decode cX6_label 21 = .ok (.invokevirtual 150, 3) := by decide +kernel
theorem dX6_label_24 : decode cX6_label 24 = .ok (.aload_n 0, 1) := by decide +kernel
theorem dX6_label_25 : decode cX6_label 25 = .ok (.getfield 34, 3) := by decide +kernel
theorem dX6_label_28 : decode cX6_label 28 = .ok (.bipush 16, 2) := by decide +kernel
theorem dX6_label_30 : decode cX6_label 30 = .ok (.iload_n 3, 1) := by decide +kernel
theorem dX6_label_31 : decode cX6_label 31 = .ok (.imul, 1) := by decide +kernel
theorem dX6_label_32 : decode cX6_label 32 = .ok (.iload_n 2, 1) := by decide +kernel
theorem dX6_label_33 : decode cX6_label 33 = .ok (.iadd, 1) := by decide +kernel
theorem dX6_label_34 : decode cX6_label 34 = .ok (.iaload, 1) := by decide +kernel
theorem dX6_label_35 : decode cX6_label 35 = .ok (.ireturn, 1) := by decide +kernel
set_option maxRecDepth 20000 in
theorem ggX6_partBy_X6_borderAt : GoodIn wsX6_partBy wsX6_borderAt := goodIn_r _ [6, 7, 8, 9, 5, 10, 11, 12, 13, 14, 15, 16, 17, 18, 25, 26, 27, 28, 29, 30, 31, 32, 33, 34, 35, 36, 37, 38, 39, 40, 41, 42, 43, 44, 45] (by decide +kernel) (by decide +kernel)
set_option maxRecDepth 20000 in
theorem gX6_partBy_X6_borderAt : GoodIn wsX6_partBy (wsV RX6 199 RX6 yX6_borderAt wsX6_borderAt) := goodIn_app (goodIn_of _ (by decide +kernel)) ggX6_partBy_X6_borderAt
set_option maxRecDepth 20000 in
theorem ggX6_partBy_X6_lesser : GoodIn wsX6_partBy wsX6_lesser := goodIn_r _ [21] (by decide +kernel) (by decide +kernel)
set_option maxRecDepth 20000 in
theorem gX6_partBy_X6_lesser : GoodIn wsX6_partBy (va_wsS RX6 214 yX6_lesser wsX6_lesser) := goodIn_app (goodIn_of _ (by decide +kernel)) ggX6_partBy_X6_lesser
set_option maxRecDepth 20000 in
theorem ggX6_partBy_X6_greater : GoodIn wsX6_partBy wsX6_greater := goodIn_r _ [24] (by decide +kernel) (by decide +kernel)
set_option maxRecDepth 20000 in
theorem gX6_partBy_X6_greater : GoodIn wsX6_partBy (va_wsS RX6 180 yX6_greater wsX6_greater) := goodIn_app (goodIn_of _ (by decide +kernel)) ggX6_partBy_X6_greater
theorem dX6_partBy_0 : decode cX6_partBy 0 = .ok (.iconst 0, 1) := by decide +kernel
theorem dX6_partBy_1 : decode cX6_partBy 1 = .ok (.istore 4, 2) := by decide +kernel
theorem dX6_partBy_3 : decode cX6_partBy 3 = .ok (.iconst 0, 1) := by decide +kernel
theorem dX6_partBy_4 : decode cX6_partBy 4 = .ok (.istore 5, 2) := by decide +kernel
theorem dX6_partBy_6 : decode cX6_partBy 6 = .ok (.bipush 16, 2) := by decide +kernel
theorem dX6_partBy_8 : decode cX6_partBy 8 = .ok (.istore 6, 2) := by decide +kernel
theorem dX6_partBy_10 : decode cX6_partBy 10 = .ok (.bipush 16, 2) := by decide +kernel
theorem dX6_partBy_12 : decode cX6_partBy 12 = .ok (.istore 7, 2) := by decide +kernel
theorem dX6_partBy_14 : decode cX6_partBy 14 = .ok (.iconst (-1), 1) := by decide +kernel
theorem dX6_partBy_15 : decode cX6_partBy 15 = .ok (.istore 8, 2) := by decide +kernel
theorem dX6_partBy_17 : decode cX6_partBy 17 = .ok (.iconst (-1), 1) := by decide +kernel
theorem dX6_partBy_18 : decode cX6_partBy 18 = .ok (.istore 9, 2) := by decide +kernel
theorem dX6_partBy_20 : decode cX6_partBy 20 = .ok (.iconst 0, 1) := by decide +kernel
theorem dX6_partBy_21 : decode cX6_partBy 21 = .ok (.istore 10, 2) := by decide +kernel
theorem dX6_partBy_23 : decode cX6_partBy 23 = .ok (.iload 10, 2) := by decide +kernel
theorem dX6_partBy_25 : decode cX6_partBy 25 = .ok (.sipush 256, 3) := by decide +kernel
theorem dX6_partBy_28 : decode cX6_partBy 28 = .ok (.if_icmp .ge 83, 3) := by decide +kernel
theorem dX6_partBy_31 : decode cX6_partBy 31 = .ok (.aload_n 0, 1) := by decide +kernel
theorem dX6_partBy_32 : decode cX6_partBy 32 = .ok (.getfield 34, 3) := by decide +kernel
theorem dX6_partBy_35 : decode cX6_partBy 35 = .ok (.iload 10, 2) := by decide +kernel
theorem dX6_partBy_37 : decode cX6_partBy 37 = .ok (.iaload, 1) := by decide +kernel
theorem dX6_partBy_38 : decode cX6_partBy 38 = .ok (.iload_n 2, 1) := by decide +kernel
theorem dX6_partBy_39 : decode cX6_partBy 39 = .ok (.if_icmp .ne 66, 3) := by decide +kernel
theorem dX6_partBy_42 : decode cX6_partBy 42 = .ok (.iinc 4 1, 3) := by decide +kernel
theorem dX6_partBy_45 : decode cX6_partBy 45 = .ok (.iload 5, 2) := by decide +kernel
theorem dX6_partBy_47 : decode cX6_partBy 47 = .ok (.aload_n 0, 1) := by decide +kernel
theorem dX6_partBy_48 : decode cX6_partBy 48 = .ok (.iload_n 1, 1) := by decide +kernel
theorem dX6_partBy_49 : decode cX6_partBy 49 = .ok (.iload 10, 2) := by decide +kernel
theorem dX6_partBy_51 : decode cX6_partBy 51 = .ok (.invokevirtual 199, 3) := by decide +kernel
theorem dX6_partBy_54 : decode cX6_partBy 54 = .ok (.iadd, 1) := by decide +kernel
theorem dX6_partBy_55 : decode cX6_partBy 55 = .ok (.istore 5, 2) := by decide +kernel
theorem dX6_partBy_57 : decode cX6_partBy 57 = .ok (.iload 10, 2) := by decide +kernel
theorem dX6_partBy_59 : decode cX6_partBy 59 = .ok (.bipush 16, 2) := by decide +kernel
theorem dX6_partBy_61 : decode cX6_partBy 61 = .ok (.irem, 1) := by decide +kernel
theorem dX6_partBy_62 : decode cX6_partBy 62 = .ok (.iload 6, 2) := by decide +kernel
theorem dX6_partBy_64 : decode cX6_partBy 64 = .ok (.invokestatic 214, 3) := by decide +kernel
theorem dX6_partBy_67 : decode cX6_partBy 67 = .ok (.istore 6, 2) := by decide +kernel
theorem dX6_partBy_69 : decode cX6_partBy 69 = .ok (.iload 10, 2) := by decide +kernel
theorem dX6_partBy_71 : decode cX6_partBy 71 = .ok (.bipush 16, 2) := by decide +kernel
theorem dX6_partBy_73 : decode cX6_partBy 73 = .ok (.idiv, 1) := by decide +kernel
theorem dX6_partBy_74 : decode cX6_partBy 74 = .ok (.iload 7, 2) := by decide +kernel
theorem dX6_partBy_76 : decode cX6_partBy 76 = .ok (.invokestatic 214, 3) := by decide +kernel
theorem dX6_partBy_79 : decode cX6_partBy 79 = .ok (.istore 7, 2) := by decide +kernel
theorem dX6_partBy_81 : decode cX6_partBy 81 = .ok (.iload 10, 2) := by decide +kernel
theorem dX6_partBy_83 : decode cX6_partBy 83 = .ok (.bipush 16, 2) := by decide +kernel
theorem dX6_partBy_85 : decode cX6_partBy 85 = .ok (.irem, 1) := by decide +kernel
theorem dX6_partBy_86 : decode cX6_partBy 86 = .ok (.iload 8, 2) := by decide +kernel
theorem dX6_partBy_88 : decode cX6_partBy 88 = .ok (.invokestatic 180, 3) := by decide +kernel
theorem dX6_partBy_91 : decode cX6_partBy 91 = .ok (.istore 8, 2) := by decide +kernel
theorem dX6_partBy_93 : decode cX6_partBy 93 = .ok (.iload 10, 2) := by decide +kernel
theorem dX6_partBy_95 : decode cX6_partBy 95 = .ok (.bipush 16, 2) := by decide +kernel
theorem dX6_partBy_97 : decode cX6_partBy 97 = .ok (.idiv, 1) := by decide +kernel
theorem dX6_partBy_98 : decode cX6_partBy 98 = .ok (.iload 9, 2) := by decide +kernel
theorem dX6_partBy_100 : decode cX6_partBy 100 = .ok (.invokestatic 180, 3) := by decide +kernel
theorem dX6_partBy_103 : decode cX6_partBy 103 = .ok (.istore 9, 2) := by decide +kernel
theorem dX6_partBy_105 : decode cX6_partBy 105 = .ok (.iinc 10 1, 3) := by decide +kernel
theorem dX6_partBy_108 : decode cX6_partBy 108 = .ok (.goto (-85), 3) := by decide +kernel
theorem dX6_partBy_111 : decode cX6_partBy 111 = .ok (.iload_n 3, 1) := by decide +kernel
theorem dX6_partBy_112 : decode cX6_partBy 112 = .ok (.tableswitch 51 0 4 #[36, 39, 42, 45, 48], 36) := by decide +kernel
theorem dX6_partBy_148 : decode cX6_partBy 148 = .ok (.iload 4, 2) := by decide +kernel
theorem dX6_partBy_150 : decode cX6_partBy 150 = .ok (.ireturn, 1) := by decide +kernel
theorem dX6_partBy_151 : decode cX6_partBy 151 = .ok (.iload 5, 2) := by decide +kernel
theorem dX6_partBy_153 : decode cX6_partBy 153 = .ok (.ireturn, 1) := by decide +kernel
theorem dX6_partBy_154 : decode cX6_partBy 154 = .ok (.iload 6, 2) := by decide +kernel
theorem dX6_partBy_156 : decode cX6_partBy 156 = .ok (.ireturn, 1) := by decide +kernel
theorem dX6_partBy_157 : decode cX6_partBy 157 = .ok (.iload 7, 2) := by decide +kernel
theorem dX6_partBy_159 : decode cX6_partBy 159 = .ok (.ireturn, 1) := by decide +kernel
theorem dX6_partBy_160 : decode cX6_partBy 160 = .ok (.iload 8, 2) := by decide +kernel
theorem dX6_partBy_162 : decode cX6_partBy 162 = .ok (.ireturn, 1) := by decide +kernel
theorem dX6_partBy_163 : decode cX6_partBy 163 = .ok (.iload 9, 2) := by decide +kernel
theorem dX6_partBy_165 : decode cX6_partBy 165 = .ok (.ireturn, 1) := by decide +kernel
set_option maxRecDepth 20000 in
theorem ggX6_partOr_X6_labels : GoodIn wsX6_partOr wsX6_labels := goodIn_r _ [7, 1, 8, 9, 10, 11, 6, 12, 13, 14, 15, 16, 17, 18, 19, 20, 21, 22, 23, 24, 25, 40, 41, 42, 43, 44, 45, 46, 47, 48, 49, 50, 51, 52, 53, 54, 55, 56, 57, 58, 59, 60] (by decide +kernel) (by decide +kernel)
set_option maxRecDepth 20000 in
theorem gX6_partOr_X6_labels : GoodIn wsX6_partOr (wsV RX6 150 RX6 yX6_labels wsX6_labels) := goodIn_app (goodIn_of _ (by decide +kernel)) ggX6_partOr_X6_labels
set_option maxRecDepth 20000 in
theorem ggX6_partOr_X6_in : GoodIn wsX6_partOr wsX6_in := goodIn_r _ [20] (by decide +kernel) (by decide +kernel)
set_option maxRecDepth 20000 in
theorem gX6_partOr_X6_in : GoodIn wsX6_partOr (va_wsS RX6 55 yX6_in wsX6_in) := goodIn_app (goodIn_of _ (by decide +kernel)) ggX6_partOr_X6_in
set_option maxRecDepth 20000 in
theorem ggX6_partOr_X6_partBy : GoodIn wsX6_partOr wsX6_partBy := goodIn_r _ [29, 8, 30, 31, 32, 6, 33, 9, 10, 11, 12, 13, 14, 15, 16, 17, 18, 19, 20, 34, 35, 36, 37, 38, 39, 40, 41, 42, 43, 44, 45, 46, 47, 48, 49, 50, 51, 52, 53, 54, 55, 56, 57, 58, 59, 60] (by decide +kernel) (by decide +kernel)
set_option maxRecDepth 20000 in
theorem gX6_partOr_X6_partBy : GoodIn wsX6_partOr (wsV RX6 219 RX6 yX6_partBy wsX6_partBy) := goodIn_app (goodIn_of _ (by decide +kernel)) ggX6_partOr_X6_partBy
theorem dX6_partOr_0 : decode cX6_partOr 0 = .ok (.aload_n 0, 1) := by decide +kernel
theorem dX6_partOr_1 : decode cX6_partOr 1 = .ok (.iload_n 1, 1) := by decide +kernel
theorem dX6_partOr_2 : decode cX6_partOr 2 = .ok (.iconst 1, 1) := by decide +kernel
theorem dX6_partOr_3 : decode cX6_partOr 3 = .ok (.invokevirtual 150, 3) := by decide +kernel
theorem dX6_partOr_6 : decode cX6_partOr 6 = .ok (.iload_n 2, 1) := by decide +kernel
theorem dX6_partOr_7 : decode cX6_partOr 7 = .ok (.i2l, 1) := by decide +kernel
theorem dX6_partOr_8 : decode cX6_partOr 8 = .ok (.lconst 0, 1) := by decide +kernel
theorem dX6_partOr_9 : decode cX6_partOr 9 = .ok (.aload_n 0, 1) := by decide +kernel
theorem dX6_partOr_10 : decode cX6_partOr 10 = .ok (.getfield 144, 3) := by decide +kernel
theorem dX6_partOr_13 : decode cX6_partOr 13 = .ok (.iconst 1, 1) := by decide +kernel
theorem dX6_partOr_14 : decode cX6_partOr 14 = .ok (.isub, 1) := by decide +kernel
theorem dX6_partOr_15 : decode cX6_partOr 15 = .ok (.i2l, 1) := by decide +kernel
theorem dX6_partOr_16 : decode cX6_partOr 16 = .ok (.invokestatic 55, 3) := by decide +kernel
theorem dX6_partOr_19 : decode cX6_partOr 19 = .ok (.ifCond .eq 25, 3) := by decide +kernel
theorem dX6_partOr_22 : decode cX6_partOr 22 = .ok (.iload_n 3, 1) := by decide +kernel
theorem dX6_partOr_23 : decode cX6_partOr 23 = .ok (.i2l, 1) := by decide +kernel
theorem dX6_partOr_24 : decode cX6_partOr 24 = .ok (.lconst 0, 1) := by decide +kernel
theorem dX6_partOr_25 : decode cX6_partOr 25 = .ok (.ldc2_w 217, 3) := by decide +kernel
theorem dX6_partOr_28 : decode cX6_partOr 28 = .ok (.invokestatic 55, 3) := by decide +kernel
theorem dX6_partOr_31 : decode cX6_partOr 31 = .ok (.ifCond .eq 13, 3) := by decide +kernel
theorem dX6_partOr_34 : decode cX6_partOr 34 = .ok (.aload_n 0, 1) := by decide +kernel
theorem dX6_partOr_35 : decode cX6_partOr 35 = .ok (.iload_n 1, 1) := by decide +kernel
theorem dX6_partOr_36 : decode cX6_partOr 36 = .ok (.iload_n 2, 1) := by decide +kernel
theorem dX6_partOr_37 : decode cX6_partOr 37 = .ok (.iload_n 3, 1) := by decide +kernel
theorem dX6_partOr_38 : decode cX6_partOr 38 = .ok (.invokevirtual 219, 3) := by decide +kernel
theorem dX6_partOr_41 : decode cX6_partOr 41 = .ok (.goto 5, 3) := by decide +kernel
theorem dX6_partOr_44 : decode cX6_partOr 44 = .ok (.bipush (-2), 2) := by decide +kernel
theorem dX6_partOr_46 : decode cX6_partOr 46 = .ok (.ireturn, 1) := by decide +kernel
set_option maxRecDepth 20000 in
theorem ggX6_part_X6_isMask : GoodIn wsX6_part wsX6_isMask := goodIn_r _ [4, 5, 6, 7, 3, 8] (by decide +kernel) (by decide +kernel)
set_option maxRecDepth 20000 in
theorem gX6_part_X6_isMask : GoodIn wsX6_part (va_wsS RX6 103 yX6_isMask wsX6_isMask) := goodIn_app (goodIn_of _ (by decide +kernel)) ggX6_part_X6_isMask
set_option maxRecDepth 20000 in
theorem ggX6_part_X6_partOr : GoodIn wsX6_part wsX6_partOr := goodIn_r _ [12, 13, 14, 15, 16, 17, 3, 18, 19, 20, 21, 22, 23, 24, 25, 26, 27, 28, 6, 7, 8, 29, 30, 31, 32, 33, 34, 35, 36, 37, 38, 39, 40, 41, 42, 43, 44, 45, 46, 47, 48, 49, 50, 51, 52, 53, 54, 55, 56, 57, 58, 59, 60, 61, 62, 63, 64, 65, 66, 67, 68] (by decide +kernel) (by decide +kernel)
set_option maxRecDepth 20000 in
theorem gX6_part_X6_partOr : GoodIn wsX6_part (wsV RX6 222 RX6 yX6_partOr wsX6_partOr) := goodIn_app (goodIn_of _ (by decide +kernel)) ggX6_part_X6_partOr
theorem dX6_part_0 : decode cX6_part 0 = .ok (.iload_n 1, 1) := by decide +kernel
theorem dX6_part_1 : decode cX6_part 1 = .ok (.invokestatic 103, 3) := by decide +kernel
theorem dX6_part_4 : decode cX6_part 4 = .ok (.ifCond .eq 13, 3) := by decide +kernel
theorem dX6_part_7 : decode cX6_part 7 = .ok (.aload_n 0, 1) := by decide +kernel
theorem dX6_part_8 : decode cX6_part 8 = .ok (.iload_n 1, 1) := by decide +kernel
theorem dX6_part_9 : decode cX6_part 9 = .ok (.iload_n 2, 1) := by decide +kernel
theorem dX6_part_10 : decode cX6_part 10 = .ok (.iload_n 3, 1) := by decide +kernel
theorem dX6_part_11 : decode cX6_part 11 = .ok (.invokevirtual 222, 3) := by decide +kernel
theorem dX6_part_14 : decode cX6_part 14 = .ok (.goto 5, 3) := by decide +kernel
theorem dX6_part_17 : decode cX6_part 17 = .ok (.bipush (-2), 2) := by decide +kernel
theorem dX6_part_19 : decode cX6_part 19 = .ok (.ireturn, 1) := by decide +kernel
set_option maxRecDepth 20000 in
theorem ggX6_near_X6_isMask : GoodIn wsX6_near wsX6_isMask := goodIn_r _ [4, 5, 6, 7, 3, 8] (by decide +kernel) (by decide +kernel)
set_option maxRecDepth 20000 in
theorem gX6_near_X6_isMask : GoodIn wsX6_near (va_wsS RX6 103 yX6_isMask wsX6_isMask) := goodIn_app (goodIn_of _ (by decide +kernel)) ggX6_near_X6_isMask
set_option maxRecDepth 20000 in
theorem ggX6_near_X6_isCell : GoodIn wsX6_near wsX6_isCell := goodIn_r _ [11, 12, 6, 7, 3, 8] (by decide +kernel) (by decide +kernel)
set_option maxRecDepth 20000 in
theorem gX6_near_X6_isCell : GoodIn wsX6_near (va_wsS RX6 86 yX6_isCell wsX6_isCell) := goodIn_app (goodIn_of _ (by decide +kernel)) ggX6_near_X6_isCell
set_option maxRecDepth 20000 in
theorem ggX6_near_X6_nearOf : GoodIn wsX6_near wsX6_nearOf := goodIn_r _ [16, 17, 18, 3, 19, 20, 21, 22, 23, 24, 9, 10, 11, 12, 6, 7, 8, 25, 26, 27, 28, 29, 30, 31, 32, 33, 34, 35, 36, 37, 38, 39, 40, 41, 42, 43, 44, 45] (by decide +kernel) (by decide +kernel)
set_option maxRecDepth 20000 in
theorem gX6_near_X6_nearOf : GoodIn wsX6_near (wsV RX6 141 RX6 yX6_nearOf wsX6_nearOf) := goodIn_app (goodIn_of _ (by decide +kernel)) ggX6_near_X6_nearOf
theorem dX6_near_0 : decode cX6_near 0 = .ok (.iload_n 1, 1) := by decide +kernel
theorem dX6_near_1 : decode cX6_near 1 = .ok (.invokestatic 103, 3) := by decide +kernel
theorem dX6_near_4 : decode cX6_near 4 = .ok (.ifCond .eq 21, 3) := by decide +kernel
theorem dX6_near_7 : decode cX6_near 7 = .ok (.iload_n 2, 1) := by decide +kernel
theorem dX6_near_8 : decode cX6_near 8 = .ok (.iload_n 3, 1) := by decide +kernel
theorem dX6_near_9 : decode cX6_near 9 = .ok (.invokestatic 86, 3) := by decide +kernel
theorem dX6_near_12 : decode cX6_near 12 = .ok (.ifCond .eq 13, 3) := by decide +kernel
theorem dX6_near_15 : decode cX6_near 15 = .ok (.aload_n 0, 1) := by decide +kernel
theorem dX6_near_16 : decode cX6_near 16 = .ok (.iload_n 1, 1) := by decide +kernel
theorem dX6_near_17 : decode cX6_near 17 = .ok (.iload_n 2, 1) := by decide +kernel
theorem dX6_near_18 : decode cX6_near 18 = .ok (.iload_n 3, 1) := by decide +kernel
theorem dX6_near_19 : decode cX6_near 19 = .ok (.invokevirtual 141, 3) := by decide +kernel
theorem dX6_near_22 : decode cX6_near 22 = .ok (.goto 5, 3) := by decide +kernel
theorem dX6_near_25 : decode cX6_near 25 = .ok (.bipush (-2), 2) := by decide +kernel
theorem dX6_near_27 : decode cX6_near 27 = .ok (.ireturn, 1) := by decide +kernel
set_option maxRecDepth 20000 in
theorem ggX6_bothBy_X6_dark : GoodIn wsX6_bothBy wsX6_dark := goodIn_r _ [5, 6, 7, 8, 4, 9, 10, 11, 12, 13, 14, 15, 16, 17, 18, 19, 20, 21, 22, 23, 24, 25, 26, 27, 28, 29, 30, 31, 32, 33, 34] (by decide +kernel) (by decide +kernel)
set_option maxRecDepth 20000 in
theorem gX6_bothBy_X6_dark : GoodIn wsX6_bothBy (wsV RX6 90 RX6 yX6_dark wsX6_dark) := goodIn_app (goodIn_of _ (by decide +kernel)) ggX6_bothBy_X6_dark
theorem dX6_bothBy_0 : decode cX6_bothBy 0 = .ok (.iconst 1, 1) := by decide +kernel
theorem dX6_bothBy_1 : decode cX6_bothBy 1 = .ok (.istore 4, 2) := by decide +kernel
theorem dX6_bothBy_3 : decode cX6_bothBy 3 = .ok (.iconst 1, 1) := by decide +kernel
theorem dX6_bothBy_4 : decode cX6_bothBy 4 = .ok (.istore 5, 2) := by decide +kernel
theorem dX6_bothBy_6 : decode cX6_bothBy 6 = .ok (.iconst 0, 1) := by decide +kernel
theorem dX6_bothBy_7 : decode cX6_bothBy 7 = .ok (.istore 6, 2) := by decide +kernel
theorem dX6_bothBy_9 : decode cX6_bothBy 9 = .ok (.iconst 0, 1) := by decide +kernel
theorem dX6_bothBy_10 : decode cX6_bothBy 10 = .ok (.istore 7, 2) := by decide +kernel
theorem dX6_bothBy_12 : decode cX6_bothBy 12 = .ok (.iconst 0, 1) := by decide +kernel
theorem dX6_bothBy_13 : decode cX6_bothBy 13 = .ok (.istore 8, 2) := by decide +kernel
theorem dX6_bothBy_15 : decode cX6_bothBy 15 = .ok (.iload 8, 2) := by decide +kernel
theorem dX6_bothBy_17 : decode cX6_bothBy 17 = .ok (.sipush 256, 3) := by decide +kernel
theorem dX6_bothBy_20 : decode cX6_bothBy 20 = .ok (.if_icmp .ge 161, 3) := by decide +kernel
theorem dX6_bothBy_23 : decode cX6_bothBy 23 = .ok (.iload 8, 2) := by decide +kernel
theorem dX6_bothBy_25 : decode cX6_bothBy 25 = .ok (.bipush 16, 2) := by decide +kernel
theorem dX6_bothBy_27 : decode cX6_bothBy 27 = .ok (.irem, 1) := by decide +kernel
theorem dX6_bothBy_28 : decode cX6_bothBy 28 = .ok (.istore 9, 2) := by decide +kernel
theorem dX6_bothBy_30 : decode cX6_bothBy 30 = .ok (.iload 8, 2) := by decide +kernel
theorem dX6_bothBy_32 : decode cX6_bothBy 32 = .ok (.bipush 16, 2) := by decide +kernel
theorem dX6_bothBy_34 : decode cX6_bothBy 34 = .ok (.idiv, 1) := by decide +kernel
theorem dX6_bothBy_35 : decode cX6_bothBy 35 = .ok (.istore 10, 2) := by decide +kernel
theorem dX6_bothBy_37 : decode cX6_bothBy 37 = .ok (.aload_n 0, 1) := by decide +kernel
theorem dX6_bothBy_38 : decode cX6_bothBy 38 = .ok (.iload_n 1, 1) := by decide +kernel
theorem dX6_bothBy_39 : decode cX6_bothBy 39 = .ok (.iload 9, 2) := by decide +kernel
theorem dX6_bothBy_41 : decode cX6_bothBy 41 = .ok (.iload 10, 2) := by decide +kernel
theorem dX6_bothBy_43 : decode cX6_bothBy 43 = .ok (.invokevirtual 90, 3) := by decide +kernel
theorem dX6_bothBy_46 : decode cX6_bothBy 46 = .ok (.istore 11, 2) := by decide +kernel
theorem dX6_bothBy_48 : decode cX6_bothBy 48 = .ok (.aload_n 0, 1) := by decide +kernel
theorem dX6_bothBy_49 : decode cX6_bothBy 49 = .ok (.iload_n 2, 1) := by decide +kernel
theorem dX6_bothBy_50 : decode cX6_bothBy 50 = .ok (.iload 9, 2) := by decide +kernel
theorem dX6_bothBy_52 : decode cX6_bothBy 52 = .ok (.iload 10, 2) := by decide +kernel
theorem dX6_bothBy_54 : decode cX6_bothBy 54 = .ok (.invokevirtual 90, 3) := by decide +kernel
theorem dX6_bothBy_57 : decode cX6_bothBy 57 = .ok (.istore 12, 2) := by decide +kernel
theorem dX6_bothBy_59 : decode cX6_bothBy 59 = .ok (.iload 4, 2) := by decide +kernel
theorem dX6_bothBy_61 : decode cX6_bothBy 61 = .ok (.ifCond .eq 14, 3) := by decide +kernel
theorem dX6_bothBy_64 : decode cX6_bothBy 64 = .ok (.iload 11, 2) := by decide +kernel
theorem dX6_bothBy_66 : decode cX6_bothBy 66 = .ok (.iload 12, 2) := by decide +kernel
theorem dX6_bothBy_68 : decode cX6_bothBy 68 = .ok (.if_icmp .ne 7, 3) := by decide +kernel
theorem dX6_bothBy_71 : decode cX6_bothBy 71 = .ok (.iconst 1, 1) := by decide +kernel
theorem dX6_bothBy_72 : decode cX6_bothBy 72 = .ok (.goto 4, 3) := by decide +kernel
theorem dX6_bothBy_75 : decode cX6_bothBy 75 = .ok (.iconst 0, 1) := by decide +kernel
theorem dX6_bothBy_76 : decode cX6_bothBy 76 = .ok (.istore 4, 2) := by decide +kernel
theorem dX6_bothBy_78 : decode cX6_bothBy 78 = .ok (.iload 5, 2) := by decide +kernel
theorem dX6_bothBy_80 : decode cX6_bothBy 80 = .ok (.ifCond .eq 14, 3) := by decide +kernel
theorem dX6_bothBy_83 : decode cX6_bothBy 83 = .ok (.iload 11, 2) := by decide +kernel
theorem dX6_bothBy_85 : decode cX6_bothBy 85 = .ok (.iload 12, 2) := by decide +kernel
theorem dX6_bothBy_87 : decode cX6_bothBy 87 = .ok (.if_icmp .gt 7, 3) := by decide +kernel
theorem dX6_bothBy_90 : decode cX6_bothBy 90 = .ok (.iconst 1, 1) := by decide +kernel
theorem dX6_bothBy_91 : decode cX6_bothBy 91 = .ok (.goto 4, 3) := by decide +kernel
theorem dX6_bothBy_94 : decode cX6_bothBy 94 = .ok (.iconst 0, 1) := by decide +kernel
theorem dX6_bothBy_95 : decode cX6_bothBy 95 = .ok (.istore 5, 2) := by decide +kernel
theorem dX6_bothBy_97 : decode cX6_bothBy 97 = .ok (.iload 6, 2) := by decide +kernel
theorem dX6_bothBy_99 : decode cX6_bothBy 99 = .ok (.iload 11, 2) := by decide +kernel
theorem dX6_bothBy_101 : decode cX6_bothBy 101 = .ok (.iload 12, 2) := by decide +kernel
theorem dX6_bothBy_103 : decode cX6_bothBy 103 = .ok (.iand, 1) := by decide +kernel
theorem dX6_bothBy_104 : decode cX6_bothBy 104 = .ok (.iadd, 1) := by decide +kernel
theorem dX6_bothBy_105 : decode cX6_bothBy 105 = .ok (.istore 6, 2) := by decide +kernel
theorem dX6_bothBy_107 : decode cX6_bothBy 107 = .ok (.iload 7, 2) := by decide +kernel
theorem dX6_bothBy_109 : decode cX6_bothBy 109 = .ok (.ifCond .ne 59, 3) := by decide +kernel
theorem dX6_bothBy_112 : decode cX6_bothBy 112 = .ok (.iload 11, 2) := by decide +kernel
theorem dX6_bothBy_114 : decode cX6_bothBy 114 = .ok (.iconst 1, 1) := by decide +kernel
theorem dX6_bothBy_115 : decode cX6_bothBy 115 = .ok (.if_icmp .ne 57, 3) := by decide +kernel
theorem dX6_bothBy_118 : decode cX6_bothBy 118 = .ok (.aload_n 0, 1) := by decide +kernel
theorem dX6_bothBy_119 : decode cX6_bothBy 119 = .ok (.iload_n 2, 1) := by decide +kernel
theorem dX6_bothBy_120 : decode cX6_bothBy 120 = .ok (.iload 9, 2) := by decide +kernel
theorem dX6_bothBy_122 : decode cX6_bothBy 122 = .ok (.iconst 1, 1) := by decide +kernel
theorem dX6_bothBy_123 : decode cX6_bothBy 123 = .ok (.iadd, 1) := by decide +kernel
theorem dX6_bothBy_124 : decode cX6_bothBy 124 = .ok (.iload 10, 2) := by decide +kernel
theorem dX6_bothBy_126 : decode cX6_bothBy 126 = .ok (.invokevirtual 90, 3) := by decide +kernel
theorem dX6_bothBy_129 : decode cX6_bothBy 129 = .ok (.aload_n 0, 1) := by decide +kernel
theorem dX6_bothBy_130 : decode cX6_bothBy 130 = .ok (.iload_n 2, 1) := by decide +kernel
theorem dX6_bothBy_131 : decode cX6_bothBy 131 = .ok (.iload 9, 2) := by decide +kernel
theorem dX6_bothBy_133 : decode cX6_bothBy 133 = .ok (.iconst 1, 1) := by decide +kernel
theorem dX6_bothBy_134 : decode cX6_bothBy 134 = .ok (.isub, 1) := by decide +kernel
theorem dX6_bothBy_135 : decode cX6_bothBy 135 = .ok (.iload 10, 2) := by decide +kernel
theorem dX6_bothBy_137 : decode cX6_bothBy 137 = .ok (.invokevirtual 90, 3) := by decide +kernel
theorem dX6_bothBy_140 : decode cX6_bothBy 140 = .ok (.iadd, 1) := by decide +kernel
theorem dX6_bothBy_141 : decode cX6_bothBy 141 = .ok (.aload_n 0, 1) := by decide +kernel
theorem dX6_bothBy_142 : decode cX6_bothBy 142 = .ok (.iload_n 2, 1) := by decide +kernel
theorem dX6_bothBy_143 : decode cX6_bothBy 143 = .ok (.iload 9, 2) := by decide +kernel
theorem dX6_bothBy_145 : decode cX6_bothBy 145 = .ok (.iload 10, 2) := by decide +kernel
theorem dX6_bothBy_147 : decode cX6_bothBy 147 = .ok (.iconst 1, 1) := by decide +kernel
theorem dX6_bothBy_148 : decode cX6_bothBy 148 = .ok (.iadd, 1) := by decide +kernel
theorem dX6_bothBy_149 : decode cX6_bothBy 149 = .ok (.invokevirtual 90, 3) := by decide +kernel
theorem dX6_bothBy_152 : decode cX6_bothBy 152 = .ok (.iadd, 1) := by decide +kernel
theorem dX6_bothBy_153 : decode cX6_bothBy 153 = .ok (.aload_n 0, 1) := by decide +kernel
theorem dX6_bothBy_154 : decode cX6_bothBy 154 = .ok (.iload_n 2, 1) := by decide +kernel
theorem dX6_bothBy_155 : decode cX6_bothBy 155 = .ok (.iload 9, 2) := by decide +kernel
theorem dX6_bothBy_157 : decode cX6_bothBy 157 = .ok (.iload 10, 2) := by decide +kernel
theorem dX6_bothBy_159 : decode cX6_bothBy 159 = .ok (.iconst 1, 1) := by decide +kernel
theorem dX6_bothBy_160 : decode cX6_bothBy 160 = .ok (.isub, 1) := by decide +kernel
theorem dX6_bothBy_161 : decode cX6_bothBy 161 = .ok (.invokevirtual 90, 3) := by decide +kernel
theorem dX6_bothBy_164 : decode cX6_bothBy 164 = .ok (.iadd, 1) := by decide +kernel
theorem dX6_bothBy_165 : decode cX6_bothBy 165 = .ok (.ifCond .le 7, 3) := by decide +kernel
theorem dX6_bothBy_168 : decode cX6_bothBy 168 = .ok (.iconst 1, 1) := by decide +kernel
theorem dX6_bothBy_169 : decode cX6_bothBy 169 = .ok (.goto 4, 3) := by decide +kernel
theorem dX6_bothBy_172 : decode cX6_bothBy 172 = .ok (.iconst 0, 1) := by decide +kernel
theorem dX6_bothBy_173 : decode cX6_bothBy 173 = .ok (.istore 7, 2) := by decide +kernel
theorem dX6_bothBy_175 : decode cX6_bothBy 175 = .ok (.iinc 8 1, 3) := by decide +kernel
theorem dX6_bothBy_178 : decode cX6_bothBy 178 = .ok (.goto (-163), 3) := by decide +kernel
theorem dX6_bothBy_181 : decode cX6_bothBy 181 = .ok (.iload_n 3, 1) := by decide +kernel
theorem dX6_bothBy_182 : decode cX6_bothBy 182 = .ok (.iconst 2, 1) := by decide +kernel
theorem dX6_bothBy_183 : decode cX6_bothBy 183 = .ok (.if_icmp .ne 8, 3) := by decide +kernel
theorem dX6_bothBy_186 : decode cX6_bothBy 186 = .ok (.iload 6, 2) := by decide +kernel
theorem dX6_bothBy_188 : decode cX6_bothBy 188 = .ok (.goto 38, 3) := by decide +kernel
theorem dX6_bothBy_191 : decode cX6_bothBy 191 = .ok (.iload_n 3, 1) := by decide +kernel
theorem dX6_bothBy_192 : decode cX6_bothBy 192 = .ok (.ifCond .ne 11, 3) := by decide +kernel
theorem dX6_bothBy_195 : decode cX6_bothBy 195 = .ok (.iload 4, 2) := by decide +kernel
theorem dX6_bothBy_197 : decode cX6_bothBy 197 = .ok (.ifCond .eq 28, 3) := by decide +kernel
theorem dX6_bothBy_200 : decode cX6_bothBy 200 = .ok (.goto 21, 3) := by decide +kernel
theorem dX6_bothBy_203 : decode cX6_bothBy 203 = .ok (.iload_n 3, 1) := by decide +kernel
theorem dX6_bothBy_204 : decode cX6_bothBy 204 = .ok (.iconst 1, 1) := by decide +kernel
theorem dX6_bothBy_205 : decode cX6_bothBy 205 = .ok (.if_icmp .ne 11, 3) := by decide +kernel
theorem dX6_bothBy_208 : decode cX6_bothBy 208 = .ok (.iload 5, 2) := by decide +kernel
theorem dX6_bothBy_210 : decode cX6_bothBy 210 = .ok (.ifCond .eq 15, 3) := by decide +kernel
theorem dX6_bothBy_213 : decode cX6_bothBy 213 = .ok (.goto 8, 3) := by decide +kernel
theorem dX6_bothBy_216 : decode cX6_bothBy 216 = .ok (.iload 7, 2) := by decide +kernel
theorem dX6_bothBy_218 : decode cX6_bothBy 218 = .ok (.ifCond .eq 7, 3) := by decide +kernel
theorem dX6_bothBy_221 : decode cX6_bothBy 221 = .ok (.iconst 1, 1) := by decide +kernel
theorem dX6_bothBy_222 : decode cX6_bothBy 222 = .ok (.goto 4, 3) := by decide +kernel
theorem dX6_bothBy_225 : decode cX6_bothBy 225 = .ok (.iconst 0, 1) := by decide +kernel
theorem dX6_bothBy_226 : decode cX6_bothBy 226 = .ok (.ireturn, 1) := by decide +kernel
set_option maxRecDepth 20000 in
theorem ggX6_both_X6_isMask : GoodIn wsX6_both wsX6_isMask := goodIn_r _ [5, 1, 6, 7, 4, 8] (by decide +kernel) (by decide +kernel)
set_option maxRecDepth 20000 in
theorem gX6_both_X6_isMask : GoodIn wsX6_both (va_wsS RX6 103 yX6_isMask wsX6_isMask) := goodIn_app (goodIn_of _ (by decide +kernel)) ggX6_both_X6_isMask
set_option maxRecDepth 20000 in
theorem ggX6_both_X6_in : GoodIn wsX6_both wsX6_in := goodIn_r _ [8] (by decide +kernel) (by decide +kernel)
set_option maxRecDepth 20000 in
theorem gX6_both_X6_in : GoodIn wsX6_both (va_wsS RX6 55 yX6_in wsX6_in) := goodIn_app (goodIn_of _ (by decide +kernel)) ggX6_both_X6_in
set_option maxRecDepth 20000 in
theorem ggX6_both_X6_bothBy : GoodIn wsX6_both wsX6_bothBy := goodIn_r _ [12, 13, 14, 15, 4, 16, 17, 18, 19, 20, 21, 6, 7, 8, 22, 23, 24, 25, 26, 27, 28, 29, 30, 31, 32, 33, 34, 35, 36, 37, 38, 39, 40, 41, 42] (by decide +kernel) (by decide +kernel)
set_option maxRecDepth 20000 in
theorem gX6_both_X6_bothBy : GoodIn wsX6_both (wsV RX6 225 RX6 yX6_bothBy wsX6_bothBy) := goodIn_app (goodIn_of _ (by decide +kernel)) ggX6_both_X6_bothBy
theorem dX6_both_0 : decode cX6_both 0 = .ok (.iload_n 1, 1) := by decide +kernel
theorem dX6_both_1 : decode cX6_both 1 = .ok (.invokestatic 103, 3) := by decide +kernel
theorem dX6_both_4 : decode cX6_both 4 = .ok (.ifCond .eq 32, 3) := by decide +kernel
theorem dX6_both_7 : decode cX6_both 7 = .ok (.iload_n 2, 1) := by decide +kernel
theorem dX6_both_8 : decode cX6_both 8 = .ok (.invokestatic 103, 3) := by decide +kernel
theorem dX6_both_11 : decode cX6_both 11 = .ok (.ifCond .eq 25, 3) := by decide +kernel
theorem dX6_both_14 : decode cX6_both 14 = .ok (.iload_n 3, 1) := by decide +kernel
theorem dX6_both_15 : decode cX6_both 15 = .ok (.i2l, 1) := by decide +kernel
theorem dX6_both_16 : decode cX6_both 16 = .ok (.lconst 0, 1) := by decide +kernel
theorem dX6_both_17 : decode cX6_both 17 = .ok (.ldc2_w 63, 3) := by decide +kernel
theorem dX6_both_20 : decode cX6_both 20 = .ok (.invokestatic 55, 3) := by decide +kernel
theorem dX6_both_23 : decode cX6_both 23 = .ok (.ifCond .eq 13, 3) := by decide +kernel
theorem dX6_both_26 : decode cX6_both 26 = .ok (.aload_n 0, 1) := by decide +kernel
theorem dX6_both_27 : decode cX6_both 27 = .ok (.iload_n 1, 1) := by decide +kernel
theorem dX6_both_28 : decode cX6_both 28 = .ok (.iload_n 2, 1) := by decide +kernel
theorem dX6_both_29 : decode cX6_both 29 = .ok (.iload_n 3, 1) := by decide +kernel
theorem dX6_both_30 : decode cX6_both 30 = .ok (.invokevirtual 225, 3) := by decide +kernel
theorem dX6_both_33 : decode cX6_both 33 = .ok (.goto 5, 3) := by decide +kernel
theorem dX6_both_36 : decode cX6_both 36 = .ok (.bipush (-2), 2) := by decide +kernel
theorem dX6_both_38 : decode cX6_both 38 = .ok (.ireturn, 1) := by decide +kernel
set_option maxRecDepth 20000 in
theorem ggX6_write_X6_isMask : GoodIn wsX6_write wsX6_isMask := goodIn_r _ [10, 11, 12, 13, 9, 14] (by decide +kernel) (by decide +kernel)
set_option maxRecDepth 20000 in
theorem gX6_write_X6_isMask : GoodIn wsX6_write (va_wsS RX6 103 yX6_isMask wsX6_isMask) := goodIn_app (goodIn_of _ (by decide +kernel)) ggX6_write_X6_isMask
set_option maxRecDepth 20000 in
theorem ggX6_write_X6_in : GoodIn wsX6_write wsX6_in := goodIn_r _ [14] (by decide +kernel) (by decide +kernel)
set_option maxRecDepth 20000 in
theorem gX6_write_X6_in : GoodIn wsX6_write (va_wsS RX6 55 yX6_in wsX6_in) := goodIn_app (goodIn_of _ (by decide +kernel)) ggX6_write_X6_in
set_option maxRecDepth 20000 in
theorem ggX6_write_X6_isSheet : GoodIn wsX6_write wsX6_isSheet := goodIn_r _ [17, 11, 12, 13, 9, 14] (by decide +kernel) (by decide +kernel)
set_option maxRecDepth 20000 in
theorem gX6_write_X6_isSheet : GoodIn wsX6_write (va_wsS RX6 65 yX6_isSheet wsX6_isSheet) := goodIn_app (goodIn_of _ (by decide +kernel)) ggX6_write_X6_isSheet
set_option maxRecDepth 20000 in
theorem ggX6_write_X6_finds : GoodIn wsX6_write wsX6_finds := goodIn_r _ [21, 22, 65, 66, 67, 68, 69, 70, 71, 72, 73, 74, 75, 76, 77, 78, 79, 80, 81, 82, 83, 84, 85] (by decide +kernel) (by decide +kernel)
set_option maxRecDepth 20000 in
theorem gX6_write_X6_finds : GoodIn wsX6_write (wsV RX6 71 RX6 yX6_finds wsX6_finds) := goodIn_app (goodIn_of _ (by decide +kernel)) ggX6_write_X6_finds
set_option maxRecDepth 20000 in
theorem ggX6_write_X6_shows : GoodIn wsX6_write wsX6_shows := goodIn_r _ [26, 4, 27, 28, 29, 30, 31, 6, 32, 33, 34, 9, 35, 36, 37, 38, 39, 40, 41, 42, 43, 44, 45, 46, 47, 48, 12, 13, 14, 49, 50, 51, 52, 53, 54, 55, 56, 57, 58, 65, 66, 67, 68, 69, 70, 71, 72, 73, 74, 75, 76, 77, 78, 79, 80, 81, 82, 83, 84, 85] (by decide +kernel) (by decide +kernel)
set_option maxRecDepth 20000 in
theorem gX6_write_X6_shows : GoodIn wsX6_write (wsV RX6 183 RX6 yX6_shows wsX6_shows) := goodIn_app (goodIn_of _ (by decide +kernel)) ggX6_write_X6_shows
set_option maxRecDepth 20000 in
theorem ggX6_write_X6_greater : GoodIn wsX6_write wsX6_greater := goodIn_r _ [54] (by decide +kernel) (by decide +kernel)
set_option maxRecDepth 20000 in
theorem gX6_write_X6_greater : GoodIn wsX6_write (va_wsS RX6 180 yX6_greater wsX6_greater) := goodIn_app (goodIn_of _ (by decide +kernel)) ggX6_write_X6_greater
set_option maxRecDepth 20000 in
theorem ggX6_write_X6_lesser : GoodIn wsX6_write wsX6_lesser := goodIn_r _ [61] (by decide +kernel) (by decide +kernel)
set_option maxRecDepth 20000 in
theorem gX6_write_X6_lesser : GoodIn wsX6_write (va_wsS RX6 214 yX6_lesser wsX6_lesser) := goodIn_app (goodIn_of _ (by decide +kernel)) ggX6_write_X6_lesser
set_option maxRecDepth 20000 in
theorem ggX6_write_X6_cut : GoodIn wsX6_write wsX6_cut := goodIn_r _ [64] (by decide +kernel) (by decide +kernel)
set_option maxRecDepth 20000 in
theorem gX6_write_X6_cut : GoodIn wsX6_write (va_wsS RX6 79 yX6_cut wsX6_cut) := goodIn_app (goodIn_of _ (by decide +kernel)) ggX6_write_X6_cut
theorem dX6_write_0 : decode cX6_write 0 = .ok (.iload_n 1, 1) := by decide +kernel
theorem dX6_write_1 : decode cX6_write 1 = .ok (.invokestatic 103, 3) := by decide +kernel
theorem dX6_write_4 : decode cX6_write 4 = .ok (.ifCond .eq 22, 3) := by decide +kernel
theorem dX6_write_7 : decode cX6_write 7 = .ok (.iload_n 2, 1) := by decide +kernel
theorem dX6_write_8 : decode cX6_write 8 = .ok (.i2l, 1) := by decide +kernel
theorem dX6_write_9 : decode cX6_write 9 = .ok (.lconst 0, 1) := by decide +kernel
theorem dX6_write_10 : decode cX6_write 10 = .ok (.ldc2_w 194, 3) := by decide +kernel
theorem dX6_write_13 : decode cX6_write 13 = .ok (.invokestatic 55, 3) := by decide +kernel
theorem dX6_write_16 : decode cX6_write 16 = .ok (.ifCond .eq 10, 3) := by decide +kernel
theorem dX6_write_19 : decode cX6_write 19 = .ok (.iload_n 3, 1) := by decide +kernel
theorem dX6_write_20 : decode cX6_write 20 = .ok (.invokestatic 65, 3) := by decide +kernel
theorem dX6_write_23 : decode cX6_write 23 = .ok (.ifCond .ne 6, 3) := by decide +kernel
theorem dX6_write_26 : decode cX6_write 26 = .ok (.bipush (-2), 2) := by decide +kernel
theorem dX6_write_28 : decode cX6_write 28 = .ok (.ireturn, 1) := by decide +kernel
theorem dX6_write_29 : decode cX6_write 29 = .ok (.aload_n 0, 1) := by decide +kernel
theorem dX6_write_30 : decode cX6_write 30 = .ok (.getfield 7, 3) := by decide +kernel
theorem dX6_write_33 : decode cX6_write 33 = .ok (.iload_n 3, 1) := by decide +kernel
theorem dX6_write_34 : decode cX6_write 34 = .ok (.iaload, 1) := by decide +kernel
theorem dX6_write_35 : decode cX6_write 35 = .ok (.ifCond .ge 9, 3) := by decide +kernel
theorem dX6_write_38 : decode cX6_write 38 = .ok (.aload_n 0, 1) := by decide +kernel
theorem dX6_write_39 : decode cX6_write 39 = .ok (.iconst 1, 1) := by decide +kernel
theorem dX6_write_40 : decode cX6_write 40 = .ok (.invokevirtual 71, 3) := by decide +kernel
theorem dX6_write_43 : decode cX6_write 43 = .ok (.ireturn, 1) := by decide +kernel
theorem dX6_write_44 : decode cX6_write 44 = .ok (.aload_n 0, 1) := by decide +kernel
theorem dX6_write_45 : decode cX6_write 45 = .ok (.iload_n 1, 1) := by decide +kernel
theorem dX6_write_46 : decode cX6_write 46 = .ok (.invokevirtual 183, 3) := by decide +kernel
theorem dX6_write_49 : decode cX6_write 49 = .ok (.aload_n 0, 1) := by decide +kernel
theorem dX6_write_50 : decode cX6_write 50 = .ok (.getfield 13, 3) := by decide +kernel
theorem dX6_write_53 : decode cX6_write 53 = .ok (.iload_n 3, 1) := by decide +kernel
theorem dX6_write_54 : decode cX6_write 54 = .ok (.iaload, 1) := by decide +kernel
theorem dX6_write_55 : decode cX6_write 55 = .ok (.aload_n 0, 1) := by decide +kernel
theorem dX6_write_56 : decode cX6_write 56 = .ok (.getfield 174, 3) := by decide +kernel
theorem dX6_write_59 : decode cX6_write 59 = .ok (.iload_n 2, 1) := by decide +kernel
theorem dX6_write_60 : decode cX6_write 60 = .ok (.isub, 1) := by decide +kernel
theorem dX6_write_61 : decode cX6_write 61 = .ok (.iconst 0, 1) := by decide +kernel
theorem dX6_write_62 : decode cX6_write 62 = .ok (.invokestatic 180, 3) := by decide +kernel
theorem dX6_write_65 : decode cX6_write 65 = .ok (.invokestatic 214, 3) := by decide +kernel
theorem dX6_write_68 : decode cX6_write 68 = .ok (.istore 4, 2) := by decide +kernel
theorem dX6_write_70 : decode cX6_write 70 = .ok (.iconst 0, 1) := by decide +kernel
theorem dX6_write_71 : decode cX6_write 71 = .ok (.istore 5, 2) := by decide +kernel
theorem dX6_write_73 : decode cX6_write 73 = .ok (.iload 5, 2) := by decide +kernel
theorem dX6_write_75 : decode cX6_write 75 = .ok (.iload 4, 2) := by decide +kernel
theorem dX6_write_77 : decode cX6_write 77 = .ok (.if_icmp .ge 39, 3) := by decide +kernel
theorem dX6_write_80 : decode cX6_write 80 = .ok (.aload_n 0, 1) := by decide +kernel
theorem dX6_write_81 : decode cX6_write 81 = .ok (.getfield 16, 3) := by decide +kernel
theorem dX6_write_84 : decode cX6_write 84 = .ok (.bipush 60, 2) := by decide +kernel
theorem dX6_write_86 : decode cX6_write 86 = .ok (.iload_n 3, 1) := by decide +kernel
theorem dX6_write_87 : decode cX6_write 87 = .ok (.imul, 1) := by decide +kernel
theorem dX6_write_88 : decode cX6_write 88 = .ok (.iload 5, 2) := by decide +kernel
theorem dX6_write_90 : decode cX6_write 90 = .ok (.iadd, 1) := by decide +kernel
theorem dX6_write_91 : decode cX6_write 91 = .ok (.aload_n 0, 1) := by decide +kernel
theorem dX6_write_92 : decode cX6_write 92 = .ok (.getfield 7, 3) := by decide +kernel
theorem dX6_write_95 : decode cX6_write 95 = .ok (.iload_n 3, 1) := by decide +kernel
theorem dX6_write_96 : decode cX6_write 96 = .ok (.iaload, 1) := by decide +kernel
theorem dX6_write_97 : decode cX6_write 97 = .ok (.aload_n 0, 1) := by decide +kernel
theorem dX6_write_98 : decode cX6_write 98 = .ok (.getfield 49, 3) := by decide +kernel
theorem dX6_write_101 : decode cX6_write 101 = .ok (.iload_n 2, 1) := by decide +kernel
theorem dX6_write_102 : decode cX6_write 102 = .ok (.iload 5, 2) := by decide +kernel
theorem dX6_write_104 : decode cX6_write 104 = .ok (.iadd, 1) := by decide +kernel
theorem dX6_write_105 : decode cX6_write 105 = .ok (.iaload, 1) := by decide +kernel
theorem dX6_write_106 : decode cX6_write 106 = .ok (.invokestatic 79, 3) := by decide +kernel
theorem dX6_write_109 : decode cX6_write 109 = .ok (.iastore, 1) := by decide +kernel
theorem dX6_write_110 : decode cX6_write 110 = .ok (.iinc 5 1, 3) := by decide +kernel
theorem dX6_write_113 : decode cX6_write 113 = .ok (.goto (-40), 3) := by decide +kernel
theorem dX6_write_116 : decode cX6_write 116 = .ok (.iload 4, 2) := by decide +kernel
theorem dX6_write_118 : decode cX6_write 118 = .ok (.ireturn, 1) := by decide +kernel
set_option maxRecDepth 20000 in
theorem ggX6_allBlocks_X6_blocksBy : GoodIn wsX6_allBlocks wsX6_blocksBy := goodIn_r _ [5, 6, 7, 8, 9, 4, 10, 11, 12, 13, 14, 15, 16, 17, 18, 19, 20, 21, 22, 23, 24, 25, 26, 27, 28, 29, 30, 31, 32, 33, 34, 35, 36, 37, 38, 39, 40, 41, 42, 43, 44, 45, 46, 47, 48, 49, 50, 51, 52, 53, 54, 55, 56, 57, 58, 59, 60, 61, 62, 63, 64, 65, 66, 67] (by decide +kernel) (by decide +kernel)
set_option maxRecDepth 20000 in
theorem gX6_allBlocks_X6_blocksBy : GoodIn wsX6_allBlocks (wsV RX6 186 RX6 yX6_blocksBy wsX6_blocksBy) := goodIn_app (goodIn_of _ (by decide +kernel)) ggX6_allBlocks_X6_blocksBy
theorem dX6_allBlocks_0 : decode cX6_allBlocks 0 = .ok (.iconst 0, 1) := by decide +kernel
theorem dX6_allBlocks_1 : decode cX6_allBlocks 1 = .ok (.istore_n 1, 1) := by decide +kernel
theorem dX6_allBlocks_2 : decode cX6_allBlocks 2 = .ok (.iconst 0, 1) := by decide +kernel
theorem dX6_allBlocks_3 : decode cX6_allBlocks 3 = .ok (.istore_n 2, 1) := by decide +kernel
theorem dX6_allBlocks_4 : decode cX6_allBlocks 4 = .ok (.iload_n 2, 1) := by decide +kernel
theorem dX6_allBlocks_5 : decode cX6_allBlocks 5 = .ok (.iconst 4, 1) := by decide +kernel
theorem dX6_allBlocks_6 : decode cX6_allBlocks 6 = .ok (.if_icmp .ge 18, 3) := by decide +kernel
theorem dX6_allBlocks_9 : decode cX6_allBlocks 9 = .ok (.iload_n 1, 1) := by decide +kernel
theorem dX6_allBlocks_10 : decode cX6_allBlocks 10 = .ok (.aload_n 0, 1) := by decide +kernel
theorem dX6_allBlocks_11 : decode cX6_allBlocks 11 = .ok (.iload_n 2, 1) := by decide +kernel
theorem dX6_allBlocks_12 : decode cX6_allBlocks 12 = .ok (.iconst 0, 1) := by decide +kernel
theorem dX6_allBlocks_13 : decode cX6_allBlocks 13 = .ok (.invokevirtual 186, 3) := by decide +kernel
theorem dX6_allBlocks_16 : decode cX6_allBlocks 16 = .ok (.iadd, 1) := by decide +kernel
theorem dX6_allBlocks_17 : decode cX6_allBlocks 17 = .ok (.istore_n 1, 1) := by decide +kernel
theorem dX6_allBlocks_18 : decode cX6_allBlocks 18 = .ok (.iinc 2 1, 3) := by decide +kernel
theorem dX6_allBlocks_21 : decode cX6_allBlocks 21 = .ok (.goto (-17), 3) := by decide +kernel
theorem dX6_allBlocks_24 : decode cX6_allBlocks 24 = .ok (.iload_n 1, 1) := by decide +kernel
theorem dX6_allBlocks_25 : decode cX6_allBlocks 25 = .ok (.ireturn, 1) := by decide +kernel
set_option maxRecDepth 20000 in
theorem ggX6_allParts_X6_partsOf : GoodIn wsX6_allParts wsX6_partsOf := goodIn_r _ [5, 6, 7, 8, 9, 4, 10, 11, 12, 13, 14, 15, 16, 17, 18, 19, 20, 21, 22, 23, 24, 25, 26, 27, 28, 29, 30, 31, 32, 33, 34, 35, 36, 37, 38, 39, 40, 41, 42, 43, 44, 45, 46, 47, 48, 49] (by decide +kernel) (by decide +kernel)
set_option maxRecDepth 20000 in
theorem gX6_allParts_X6_partsOf : GoodIn wsX6_allParts (wsV RX6 202 RX6 yX6_partsOf wsX6_partsOf) := goodIn_app (goodIn_of _ (by decide +kernel)) ggX6_allParts_X6_partsOf
theorem dX6_allParts_0 : decode cX6_allParts 0 = .ok (.iconst 0, 1) := by decide +kernel
theorem dX6_allParts_1 : decode cX6_allParts 1 = .ok (.istore_n 1, 1) := by decide +kernel
theorem dX6_allParts_2 : decode cX6_allParts 2 = .ok (.iconst 0, 1) := by decide +kernel
theorem dX6_allParts_3 : decode cX6_allParts 3 = .ok (.istore_n 2, 1) := by decide +kernel
theorem dX6_allParts_4 : decode cX6_allParts 4 = .ok (.iload_n 2, 1) := by decide +kernel
theorem dX6_allParts_5 : decode cX6_allParts 5 = .ok (.iconst 4, 1) := by decide +kernel
theorem dX6_allParts_6 : decode cX6_allParts 6 = .ok (.if_icmp .ge 17, 3) := by decide +kernel
theorem dX6_allParts_9 : decode cX6_allParts 9 = .ok (.iload_n 1, 1) := by decide +kernel
theorem dX6_allParts_10 : decode cX6_allParts 10 = .ok (.aload_n 0, 1) := by decide +kernel
theorem dX6_allParts_11 : decode cX6_allParts 11 = .ok (.iload_n 2, 1) := by decide +kernel
theorem dX6_allParts_12 : decode cX6_allParts 12 = .ok (.invokevirtual 202, 3) := by decide +kernel
theorem dX6_allParts_15 : decode cX6_allParts 15 = .ok (.iadd, 1) := by decide +kernel
theorem dX6_allParts_16 : decode cX6_allParts 16 = .ok (.istore_n 1, 1) := by decide +kernel
theorem dX6_allParts_17 : decode cX6_allParts 17 = .ok (.iinc 2 1, 3) := by decide +kernel
theorem dX6_allParts_20 : decode cX6_allParts 20 = .ok (.goto (-16), 3) := by decide +kernel
theorem dX6_allParts_23 : decode cX6_allParts 23 = .ok (.iload_n 1, 1) := by decide +kernel
theorem dX6_allParts_24 : decode cX6_allParts 24 = .ok (.ireturn, 1) := by decide +kernel
set_option maxRecDepth 20000 in
theorem ggX6_inAll_X6_dark : GoodIn wsX6_inAll wsX6_dark := goodIn_r _ [5, 6, 7, 8, 4, 9, 10, 11, 12, 13, 14, 15, 16, 17, 18, 19, 20, 21, 22, 23, 24, 25, 26, 27, 28, 29, 30, 31, 32, 33, 34] (by decide +kernel) (by decide +kernel)
set_option maxRecDepth 20000 in
theorem gX6_inAll_X6_dark : GoodIn wsX6_inAll (wsV RX6 90 RX6 yX6_dark wsX6_dark) := goodIn_app (goodIn_of _ (by decide +kernel)) ggX6_inAll_X6_dark
theorem dX6_inAll_0 : decode cX6_inAll 0 = .ok (.iconst 0, 1) := by decide +kernel
theorem dX6_inAll_1 : decode cX6_inAll 1 = .ok (.istore_n 1, 1) := by decide +kernel
theorem dX6_inAll_2 : decode cX6_inAll 2 = .ok (.iconst 0, 1) := by decide +kernel
theorem dX6_inAll_3 : decode cX6_inAll 3 = .ok (.istore_n 2, 1) := by decide +kernel
theorem dX6_inAll_4 : decode cX6_inAll 4 = .ok (.iload_n 2, 1) := by decide +kernel
theorem dX6_inAll_5 : decode cX6_inAll 5 = .ok (.sipush 256, 3) := by decide +kernel
theorem dX6_inAll_8 : decode cX6_inAll 8 = .ok (.if_icmp .ge 58, 3) := by decide +kernel
theorem dX6_inAll_11 : decode cX6_inAll 11 = .ok (.iload_n 2, 1) := by decide +kernel
theorem dX6_inAll_12 : decode cX6_inAll 12 = .ok (.bipush 16, 2) := by decide +kernel
theorem dX6_inAll_14 : decode cX6_inAll 14 = .ok (.irem, 1) := by decide +kernel
theorem dX6_inAll_15 : decode cX6_inAll 15 = .ok (.istore_n 3, 1) := by decide +kernel
theorem dX6_inAll_16 : decode cX6_inAll 16 = .ok (.iload_n 2, 1) := by decide +kernel
theorem dX6_inAll_17 : decode cX6_inAll 17 = .ok (.bipush 16, 2) := by decide +kernel
theorem dX6_inAll_19 : decode cX6_inAll 19 = .ok (.idiv, 1) := by decide +kernel
theorem dX6_inAll_20 : decode cX6_inAll 20 = .ok (.istore 4, 2) := by decide +kernel
theorem dX6_inAll_22 : decode cX6_inAll 22 = .ok (.iload_n 1, 1) := by decide +kernel
theorem dX6_inAll_23 : decode cX6_inAll 23 = .ok (.aload_n 0, 1) := by decide +kernel
theorem dX6_inAll_24 : decode cX6_inAll 24 = .ok (.iconst 0, 1) := by decide +kernel
theorem dX6_inAll_25 : decode cX6_inAll 25 = .ok (.iload_n 3, 1) := by decide +kernel
theorem dX6_inAll_26 : decode cX6_inAll 26 = .ok (.iload 4, 2) := by decide +kernel
theorem dX6_inAll_28 : decode cX6_inAll 28 = .ok (.invokevirtual 90, 3) := by decide +kernel
theorem dX6_inAll_31 : decode cX6_inAll 31 = .ok (.aload_n 0, 1) := by decide +kernel
theorem dX6_inAll_32 : decode cX6_inAll 32 = .ok (.iconst 1, 1) := by decide +kernel
theorem dX6_inAll_33 : decode cX6_inAll 33 = .ok (.iload_n 3, 1) := by decide +kernel
theorem dX6_inAll_34 : decode cX6_inAll 34 = .ok (.iload 4, 2) := by decide +kernel
theorem dX6_inAll_36 : decode cX6_inAll 36 = .ok (.invokevirtual 90, 3) := by decide +kernel
theorem dX6_inAll_39 : decode cX6_inAll 39 = .ok (.iand, 1) := by decide +kernel
theorem dX6_inAll_40 : decode cX6_inAll 40 = .ok (.aload_n 0, 1) := by decide +kernel
theorem dX6_inAll_41 : decode cX6_inAll 41 = .ok (.iconst 2, 1) := by decide +kernel
theorem dX6_inAll_42 : decode cX6_inAll 42 = .ok (.iload_n 3, 1) := by decide +kernel
theorem dX6_inAll_43 : decode cX6_inAll 43 = .ok (.iload 4, 2) := by decide +kernel
theorem dX6_inAll_45 : decode cX6_inAll 45 = .ok (.invokevirtual 90, 3) := by decide +kernel
theorem dX6_inAll_48 : decode cX6_inAll 48 = .ok (.iand, 1) := by decide +kernel
theorem dX6_inAll_49 : decode cX6_inAll 49 = .ok (.aload_n 0, 1) := by decide +kernel
theorem dX6_inAll_50 : decode cX6_inAll 50 = .ok (.iconst 3, 1) := by decide +kernel
theorem dX6_inAll_51 : decode cX6_inAll 51 = .ok (.iload_n 3, 1) := by decide +kernel
theorem dX6_inAll_52 : decode cX6_inAll 52 = .ok (.iload 4, 2) := by decide +kernel
theorem dX6_inAll_54 : decode cX6_inAll 54 = .ok (.invokevirtual 90, 3) := by decide +kernel
theorem dX6_inAll_57 : decode cX6_inAll 57 = .ok (.iand, 1) := by decide +kernel
theorem dX6_inAll_58 : decode cX6_inAll 58 = .ok (.iadd, 1) := by decide +kernel
theorem dX6_inAll_59 : decode cX6_inAll 59 = .ok (.istore_n 1, 1) := by decide +kernel
theorem dX6_inAll_60 : decode cX6_inAll 60 = .ok (.iinc 2 1, 3) := by decide +kernel
theorem dX6_inAll_63 : decode cX6_inAll 63 = .ok (.goto (-59), 3) := by decide +kernel
theorem dX6_inAll_66 : decode cX6_inAll 66 = .ok (.iload_n 1, 1) := by decide +kernel
theorem dX6_inAll_67 : decode cX6_inAll 67 = .ok (.ireturn, 1) := by decide +kernel
set_option maxRecDepth 20000 in
theorem ggX6_count_X6_darkOf : GoodIn wsX6_count wsX6_darkOf := goodIn_r _ [7, 8, 9, 10, 6, 11, 12, 13, 14, 15, 16, 17, 18, 19, 80, 81, 82, 83, 84, 85, 86, 87, 88, 89, 90, 91, 92, 93, 94, 95, 96, 97, 98, 99, 100] (by decide +kernel) (by decide +kernel)
set_option maxRecDepth 20000 in
theorem gX6_count_X6_darkOf : GoodIn wsX6_count (wsV RX6 100 RX6 yX6_darkOf wsX6_darkOf) := goodIn_app (goodIn_of _ (by decide +kernel)) ggX6_count_X6_darkOf
set_option maxRecDepth 20000 in
theorem ggX6_count_X6_allBlocks : GoodIn wsX6_count wsX6_allBlocks := goodIn_r _ [23, 24, 25, 26, 6, 27, 28, 29, 30, 31, 32, 33, 34, 35, 36, 37, 38, 39, 40, 41, 42, 43, 44, 45, 46, 12, 8, 9, 10, 11, 13, 14, 15, 16, 17, 18, 19, 47, 48, 49, 50, 51, 52, 53, 54, 55, 56, 80, 81, 82, 83, 84, 85, 86, 87, 88, 89, 90, 91, 92, 93, 94, 95, 96, 97, 98, 99, 100] (by decide +kernel) (by decide +kernel)
set_option maxRecDepth 20000 in
theorem gX6_count_X6_allBlocks : GoodIn wsX6_count (wsV RX6 228 RX6 yX6_allBlocks wsX6_allBlocks) := goodIn_app (goodIn_of _ (by decide +kernel)) ggX6_count_X6_allBlocks
set_option maxRecDepth 20000 in
theorem ggX6_count_X6_allParts : GoodIn wsX6_count wsX6_allParts := goodIn_r _ [60, 61, 62, 63, 6, 64, 65, 66, 67, 68, 69, 70, 8, 9, 10, 11, 12, 13, 14, 15, 16, 17, 18, 19, 71, 72, 73, 74, 75, 80, 81, 82, 83, 84, 85, 86, 87, 88, 89, 90, 91, 92, 93, 94, 95, 96, 97, 98, 99, 100] (by decide +kernel) (by decide +kernel)
set_option maxRecDepth 20000 in
theorem gX6_count_X6_allParts : GoodIn wsX6_count (wsV RX6 232 RX6 yX6_allParts wsX6_allParts) := goodIn_app (goodIn_of _ (by decide +kernel)) ggX6_count_X6_allParts
set_option maxRecDepth 20000 in
theorem ggX6_count_X6_inAll : GoodIn wsX6_count wsX6_inAll := goodIn_r _ [79, 8, 9, 10, 6, 11, 12, 13, 14, 15, 16, 17, 18, 19, 80, 81, 82, 83, 84, 85, 86, 87, 88, 89, 90, 91, 92, 93, 94, 95, 96, 97, 98, 99, 100] (by decide +kernel) (by decide +kernel)
set_option maxRecDepth 20000 in
theorem gX6_count_X6_inAll : GoodIn wsX6_count (wsV RX6 235 RX6 yX6_inAll wsX6_inAll) := goodIn_app (goodIn_of _ (by decide +kernel)) ggX6_count_X6_inAll
theorem dX6_count_0 : decode cX6_count 0 = .ok (.iload_n 1, 1) := by decide +kernel
theorem dX6_count_1 : decode cX6_count 1 = .ok (.tableswitch 82 0 8 #[51, 51, 51, 51, 57, 62, 67, 72, 77], 51) := by decide +kernel
theorem dX6_count_52 : decode cX6_count 52 = .ok (.aload_n 0, 1) := by decide +kernel
theorem dX6_count_53 : decode cX6_count 53 = .ok (.iload_n 1, 1) := by decide +kernel
theorem dX6_count_54 : decode cX6_count 54 = .ok (.invokevirtual 100, 3) := by decide +kernel
theorem dX6_count_57 : decode cX6_count 57 = .ok (.ireturn, 1) := by decide +kernel
theorem dX6_count_58 : decode cX6_count 58 = .ok (.aload_n 0, 1) := by decide +kernel
theorem dX6_count_59 : decode cX6_count 59 = .ok (.invokevirtual 228, 3) := by decide +kernel
theorem dX6_count_62 : decode cX6_count 62 = .ok (.ireturn, 1) := by decide +kernel
theorem dX6_count_63 : decode cX6_count 63 = .ok (.aload_n 0, 1) := by decide +kernel
theorem dX6_count_64 : decode cX6_count 64 = .ok (.invokevirtual 232, 3) := by decide +kernel
theorem dX6_count_67 : decode cX6_count 67 = .ok (.ireturn, 1) := by decide +kernel
theorem dX6_count_68 : decode cX6_count 68 = .ok (.aload_n 0, 1) := by decide +kernel
theorem dX6_count_69 : decode cX6_count 69 = .ok (.getfield 93, 3) := by decide +kernel
theorem dX6_count_72 : decode cX6_count 72 = .ok (.ireturn, 1) := by decide +kernel
theorem dX6_count_73 : decode cX6_count 73 = .ok (.aload_n 0, 1) := by decide +kernel
theorem dX6_count_74 : decode cX6_count 74 = .ok (.invokevirtual 235, 3) := by decide +kernel
theorem dX6_count_77 : decode cX6_count 77 = .ok (.ireturn, 1) := by decide +kernel
theorem dX6_count_78 : decode cX6_count 78 = .ok (.aload_n 0, 1) := by decide +kernel
theorem dX6_count_79 : decode cX6_count 79 = .ok (.getfield 59, 3) := by decide +kernel
theorem dX6_count_82 : decode cX6_count 82 = .ok (.ireturn, 1) := by decide +kernel
theorem dX6_count_83 : decode cX6_count 83 = .ok (.bipush (-2), 2) := by decide +kernel
theorem dX6_count_85 : decode cX6_count 85 = .ok (.ireturn, 1) := by decide +kernel
set_option maxRecDepth 20000 in
theorem ggX6_tellsMask_X6_blocksBy : GoodIn wsX6_tellsMask wsX6_blocksBy := goodIn_r _ [8, 9, 10, 11, 12, 7, 13, 14, 15, 16, 17, 18, 19, 20, 21, 22, 23, 24, 25, 26, 27, 28, 29, 30, 31, 32, 33, 34, 35, 36, 37, 38, 39, 40, 41, 42, 43, 44, 45, 46, 47, 48, 49, 109, 110, 111, 112, 113, 114, 115, 116, 117, 118, 119, 120, 121, 122, 123, 124, 125, 126, 127, 128, 129] (by decide +kernel) (by decide +kernel)
set_option maxRecDepth 20000 in
theorem gX6_tellsMask_X6_blocksBy : GoodIn wsX6_tellsMask (wsV RX6 186 RX6 yX6_blocksBy wsX6_blocksBy) := goodIn_app (goodIn_of _ (by decide +kernel)) ggX6_tellsMask_X6_blocksBy
set_option maxRecDepth 20000 in
theorem ggX6_tellsMask_X6_allBy : GoodIn wsX6_tellsMask wsX6_allBy := goodIn_r _ [53, 54, 55, 56, 7, 57, 3, 58, 59, 60, 61, 2, 29, 30, 31, 32, 28, 33, 34, 35, 36, 37, 38, 39, 62, 63, 64, 65, 66, 67, 68, 69, 70, 71, 72, 73, 74, 75, 76, 77, 78, 79, 80, 81, 82, 109, 110, 111, 112, 113, 114, 115, 116, 117, 118, 119, 120, 121, 122, 123, 124, 125, 126, 127, 128, 129] (by decide +kernel) (by decide +kernel)
set_option maxRecDepth 20000 in
theorem gX6_tellsMask_X6_allBy : GoodIn wsX6_tellsMask (wsV RX6 211 RX6 yX6_allBy wsX6_allBy) := goodIn_app (goodIn_of _ (by decide +kernel)) ggX6_tellsMask_X6_allBy
set_option maxRecDepth 20000 in
theorem ggX6_tellsMask_X6_shows : GoodIn wsX6_tellsMask wsX6_shows := goodIn_r _ [13, 14, 9, 15, 16, 17, 18, 19, 20, 21, 22, 7, 23, 24, 25, 26, 27, 28, 29, 30, 31, 32, 33, 34, 35, 36, 37, 38, 39, 40, 41, 42, 43, 44, 45, 46, 47, 48, 49, 109, 110, 111, 112, 113, 114, 115, 116, 117, 118, 119, 120, 121, 122, 123, 124, 125, 126, 127, 128, 129] (by decide +kernel) (by decide +kernel)
set_option maxRecDepth 20000 in
theorem gX6_tellsMask_X6_shows : GoodIn wsX6_tellsMask (wsV RX6 183 RX6 yX6_shows wsX6_shows) := goodIn_app (goodIn_of _ (by decide +kernel)) ggX6_tellsMask_X6_shows
set_option maxRecDepth 20000 in
theorem ggX6_tellsMask_X6_signBy : GoodIn wsX6_tellsMask wsX6_signBy := goodIn_r _ [86, 14, 19, 109, 110, 111, 112, 113, 114, 115, 116, 117, 118, 119, 120, 121, 122, 123, 124, 125, 126, 127, 128, 129] (by decide +kernel) (by decide +kernel)
set_option maxRecDepth 20000 in
theorem gX6_tellsMask_X6_signBy : GoodIn wsX6_tellsMask (wsV RX6 189 RX6 yX6_signBy wsX6_signBy) := goodIn_app (goodIn_of _ (by decide +kernel)) ggX6_tellsMask_X6_signBy
set_option maxRecDepth 20000 in
theorem ggX6_tellsMask_X6_labels : GoodIn wsX6_tellsMask wsX6_labels := goodIn_r _ [61, 3, 2, 29, 30, 31, 7, 32, 28, 33, 34, 35, 36, 37, 38, 39, 62, 63, 64, 65, 66, 109, 110, 111, 112, 113, 114, 115, 116, 117, 118, 119, 120, 121, 122, 123, 124, 125, 126, 127, 128, 129] (by decide +kernel) (by decide +kernel)
set_option maxRecDepth 20000 in
theorem gX6_tellsMask_X6_labels : GoodIn wsX6_tellsMask (wsV RX6 150 RX6 yX6_labels wsX6_labels) := goodIn_app (goodIn_of _ (by decide +kernel)) ggX6_tellsMask_X6_labels
set_option maxRecDepth 20000 in
theorem ggX6_tellsMask_X6_dark : GoodIn wsX6_tellsMask wsX6_dark := goodIn_r _ [32, 28, 33, 34, 7, 35, 36, 37, 38, 39, 109, 110, 111, 112, 113, 114, 115, 116, 117, 118, 119, 120, 121, 122, 123, 124, 125, 126, 127, 128, 129] (by decide +kernel) (by decide +kernel)
set_option maxRecDepth 20000 in
theorem gX6_tellsMask_X6_dark : GoodIn wsX6_tellsMask (wsV RX6 90 RX6 yX6_dark wsX6_dark) := goodIn_app (goodIn_of _ (by decide +kernel)) ggX6_tellsMask_X6_dark
set_option maxRecDepth 20000 in
theorem ggX6_tellsMask_X6_blockBy : GoodIn wsX6_tellsMask wsX6_blockBy := goodIn_r _ [90, 24, 25, 26, 7, 27, 28, 109, 110, 111, 112, 113, 114, 115, 116, 117, 118, 119, 120, 121, 122, 123, 124, 125, 126, 127, 128, 129] (by decide +kernel) (by decide +kernel)
set_option maxRecDepth 20000 in
theorem gX6_tellsMask_X6_blockBy : GoodIn wsX6_tellsMask (wsV RX6 170 RX6 yX6_blockBy wsX6_blockBy) := goodIn_app (goodIn_of _ (by decide +kernel)) ggX6_tellsMask_X6_blockBy
set_option maxRecDepth 20000 in
theorem ggX6_tellsMask_X6_nearOf : GoodIn wsX6_tellsMask wsX6_nearOf := goodIn_r _ [94, 95, 96, 7, 97, 29, 30, 31, 32, 28, 33, 34, 35, 36, 37, 38, 39, 109, 110, 111, 112, 113, 114, 115, 116, 117, 118, 119, 120, 121, 122, 123, 124, 125, 126, 127, 128, 129] (by decide +kernel) (by decide +kernel)
set_option maxRecDepth 20000 in
theorem gX6_tellsMask_X6_nearOf : GoodIn wsX6_tellsMask (wsV RX6 141 RX6 yX6_nearOf wsX6_nearOf) := goodIn_app (goodIn_of _ (by decide +kernel)) ggX6_tellsMask_X6_nearOf
set_option maxRecDepth 20000 in
theorem ggX6_tellsMask_X6_partBy : GoodIn wsX6_tellsMask wsX6_partBy := goodIn_r _ [101, 2, 71, 72, 73, 7, 74, 29, 30, 31, 32, 28, 33, 34, 35, 36, 37, 38, 39, 102, 103, 104, 43, 44, 45, 109, 110, 111, 112, 113, 114, 115, 116, 117, 118, 119, 120, 121, 122, 123, 124, 125, 126, 127, 128, 129] (by decide +kernel) (by decide +kernel)
set_option maxRecDepth 20000 in
theorem gX6_tellsMask_X6_partBy : GoodIn wsX6_tellsMask (wsV RX6 219 RX6 yX6_partBy wsX6_partBy) := goodIn_app (goodIn_of _ (by decide +kernel)) ggX6_tellsMask_X6_partBy
set_option maxRecDepth 20000 in
theorem ggX6_tellsMask_X6_bothBy : GoodIn wsX6_tellsMask wsX6_bothBy := goodIn_r _ [108, 29, 30, 31, 7, 32, 28, 33, 34, 35, 36, 37, 38, 39, 109, 110, 111, 112, 113, 114, 115, 116, 117, 118, 119, 120, 121, 122, 123, 124, 125, 126, 127, 128, 129] (by decide +kernel) (by decide +kernel)
set_option maxRecDepth 20000 in
theorem gX6_tellsMask_X6_bothBy : GoodIn wsX6_tellsMask (wsV RX6 225 RX6 yX6_bothBy wsX6_bothBy) := goodIn_app (goodIn_of _ (by decide +kernel)) ggX6_tellsMask_X6_bothBy
theorem dX6_tellsMask_0 : decode cX6_tellsMask 0 = .ok (.lload_n 1, 1) := by decide +kernel
theorem dX6_tellsMask_1 : decode cX6_tellsMask 1 = .ok (.lstore 4, 2) := by decide +kernel
theorem dX6_tellsMask_3 : decode cX6_tellsMask 3 = .ok (.iconst 0, 1) := by decide +kernel
theorem dX6_tellsMask_4 : decode cX6_tellsMask 4 = .ok (.istore 6, 2) := by decide +kernel
theorem dX6_tellsMask_6 : decode cX6_tellsMask 6 = .ok (.iload 6, 2) := by decide +kernel
theorem dX6_tellsMask_8 : decode cX6_tellsMask 8 = .ok (.iconst 4, 1) := by decide +kernel
theorem dX6_tellsMask_9 : decode cX6_tellsMask 9 = .ok (.if_icmp .ge 26, 3) := by decide +kernel
theorem dX6_tellsMask_12 : decode cX6_tellsMask 12 = .ok (.ldc2_w 238, 3) := by decide +kernel
theorem dX6_tellsMask_15 : decode cX6_tellsMask 15 = .ok (.lload 4, 2) := by decide +kernel
theorem dX6_tellsMask_17 : decode cX6_tellsMask 17 = .ok (.lmul, 1) := by decide +kernel
theorem dX6_tellsMask_18 : decode cX6_tellsMask 18 = .ok (.aload_n 0, 1) := by decide +kernel
theorem dX6_tellsMask_19 : decode cX6_tellsMask 19 = .ok (.iload_n 3, 1) := by decide +kernel
theorem dX6_tellsMask_20 : decode cX6_tellsMask 20 = .ok (.iload 6, 2) := by decide +kernel
theorem dX6_tellsMask_22 : decode cX6_tellsMask 22 = .ok (.invokevirtual 186, 3) := by decide +kernel
theorem dX6_tellsMask_25 : decode cX6_tellsMask 25 = .ok (.i2l, 1) := by decide +kernel
theorem dX6_tellsMask_26 : decode cX6_tellsMask 26 = .ok (.ladd, 1) := by decide +kernel
theorem dX6_tellsMask_27 : decode cX6_tellsMask 27 = .ok (.lstore 4, 2) := by decide +kernel
theorem dX6_tellsMask_29 : decode cX6_tellsMask 29 = .ok (.iinc 6 1, 3) := by decide +kernel
theorem dX6_tellsMask_32 : decode cX6_tellsMask 32 = .ok (.goto (-26), 3) := by decide +kernel
theorem dX6_tellsMask_35 : decode cX6_tellsMask 35 = .ok (.iconst 0, 1) := by decide +kernel
theorem dX6_tellsMask_36 : decode cX6_tellsMask 36 = .ok (.istore 6, 2) := by decide +kernel
theorem dX6_tellsMask_38 : decode cX6_tellsMask 38 = .ok (.iload 6, 2) := by decide +kernel
theorem dX6_tellsMask_40 : decode cX6_tellsMask 40 = .ok (.iconst 4, 1) := by decide +kernel
theorem dX6_tellsMask_41 : decode cX6_tellsMask 41 = .ok (.if_icmp .ge 26, 3) := by decide +kernel
theorem dX6_tellsMask_44 : decode cX6_tellsMask 44 = .ok (.ldc2_w 238, 3) := by decide +kernel
theorem dX6_tellsMask_47 : decode cX6_tellsMask 47 = .ok (.lload 4, 2) := by decide +kernel
theorem dX6_tellsMask_49 : decode cX6_tellsMask 49 = .ok (.lmul, 1) := by decide +kernel
theorem dX6_tellsMask_50 : decode cX6_tellsMask 50 = .ok (.aload_n 0, 1) := by decide +kernel
theorem dX6_tellsMask_51 : decode cX6_tellsMask 51 = .ok (.iload_n 3, 1) := by decide +kernel
theorem dX6_tellsMask_52 : decode cX6_tellsMask 52 = .ok (.iload 6, 2) := by decide +kernel
theorem dX6_tellsMask_54 : decode cX6_tellsMask 54 = .ok (.invokevirtual 211, 3) := by decide +kernel
theorem dX6_tellsMask_57 : decode cX6_tellsMask 57 = .ok (.i2l, 1) := by decide +kernel
theorem dX6_tellsMask_58 : decode cX6_tellsMask 58 = .ok (.ladd, 1) := by decide +kernel
theorem dX6_tellsMask_59 : decode cX6_tellsMask 59 = .ok (.lstore 4, 2) := by decide +kernel
theorem dX6_tellsMask_61 : decode cX6_tellsMask 61 = .ok (.iinc 6 1, 3) := by decide +kernel
theorem dX6_tellsMask_64 : decode cX6_tellsMask 64 = .ok (.goto (-26), 3) := by decide +kernel
theorem dX6_tellsMask_67 : decode cX6_tellsMask 67 = .ok (.aload_n 0, 1) := by decide +kernel
theorem dX6_tellsMask_68 : decode cX6_tellsMask 68 = .ok (.iload_n 3, 1) := by decide +kernel
theorem dX6_tellsMask_69 : decode cX6_tellsMask 69 = .ok (.invokevirtual 183, 3) := by decide +kernel
theorem dX6_tellsMask_72 : decode cX6_tellsMask 72 = .ok (.iconst (-1), 1) := by decide +kernel
theorem dX6_tellsMask_73 : decode cX6_tellsMask 73 = .ok (.istore 6, 2) := by decide +kernel
theorem dX6_tellsMask_75 : decode cX6_tellsMask 75 = .ok (.iload 6, 2) := by decide +kernel
theorem dX6_tellsMask_77 : decode cX6_tellsMask 77 = .ok (.bipush 41, 2) := by decide +kernel
theorem dX6_tellsMask_79 : decode cX6_tellsMask 79 = .ok (.if_icmp .ge 25, 3) := by decide +kernel
theorem dX6_tellsMask_82 : decode cX6_tellsMask 82 = .ok (.ldc2_w 238, 3) := by decide +kernel
theorem dX6_tellsMask_85 : decode cX6_tellsMask 85 = .ok (.lload 4, 2) := by decide +kernel
theorem dX6_tellsMask_87 : decode cX6_tellsMask 87 = .ok (.lmul, 1) := by decide +kernel
theorem dX6_tellsMask_88 : decode cX6_tellsMask 88 = .ok (.aload_n 0, 1) := by decide +kernel
theorem dX6_tellsMask_89 : decode cX6_tellsMask 89 = .ok (.iload 6, 2) := by decide +kernel
theorem dX6_tellsMask_91 : decode cX6_tellsMask 91 = .ok (.invokevirtual 189, 3) := by decide +kernel
theorem dX6_tellsMask_94 : decode cX6_tellsMask 94 = .ok (.i2l, 1) := by decide +kernel
theorem dX6_tellsMask_95 : decode cX6_tellsMask 95 = .ok (.ladd, 1) := by decide +kernel
theorem dX6_tellsMask_96 : decode cX6_tellsMask 96 = .ok (.lstore 4, 2) := by decide +kernel
theorem dX6_tellsMask_98 : decode cX6_tellsMask 98 = .ok (.iinc 6 1, 3) := by decide +kernel
theorem dX6_tellsMask_101 : decode cX6_tellsMask 101 = .ok (.goto (-26), 3) := by decide +kernel
theorem dX6_tellsMask_104 : decode cX6_tellsMask 104 = .ok (.aload_n 0, 1) := by decide +kernel
theorem dX6_tellsMask_105 : decode cX6_tellsMask 105 = .ok (.iload_n 3, 1) := by decide +kernel
theorem dX6_tellsMask_106 : decode cX6_tellsMask 106 = .ok (.iconst 1, 1) := by decide +kernel
theorem dX6_tellsMask_107 : decode cX6_tellsMask 107 = .ok (.invokevirtual 150, 3) := by decide +kernel
theorem dX6_tellsMask_110 : decode cX6_tellsMask 110 = .ok (.iconst 0, 1) := by decide +kernel
theorem dX6_tellsMask_111 : decode cX6_tellsMask 111 = .ok (.istore 6, 2) := by decide +kernel
theorem dX6_tellsMask_113 : decode cX6_tellsMask 113 = .ok (.iload 6, 2) := by decide +kernel
theorem dX6_tellsMask_115 : decode cX6_tellsMask 115 = .ok (.bipush 16, 2) := by decide +kernel
theorem dX6_tellsMask_117 : decode cX6_tellsMask 117 = .ok (.if_icmp .ge 106, 3) := by decide +kernel
theorem dX6_tellsMask_120 : decode cX6_tellsMask 120 = .ok (.iconst 0, 1) := by decide +kernel
theorem dX6_tellsMask_121 : decode cX6_tellsMask 121 = .ok (.istore 7, 2) := by decide +kernel
theorem dX6_tellsMask_123 : decode cX6_tellsMask 123 = .ok (.iload 7, 2) := by decide +kernel
theorem dX6_tellsMask_125 : decode cX6_tellsMask 125 = .ok (.bipush 16, 2) := by decide +kernel
theorem dX6_tellsMask_127 : decode cX6_tellsMask 127 = .ok (.if_icmp .ge 90, 3) := by decide +kernel
theorem dX6_tellsMask_130 : decode cX6_tellsMask 130 = .ok (.ldc2_w 238, 3) := by decide +kernel
theorem dX6_tellsMask_133 : decode cX6_tellsMask 133 = .ok (.lload 4, 2) := by decide +kernel
theorem dX6_tellsMask_135 : decode cX6_tellsMask 135 = .ok (.lmul, 1) := by decide +kernel
theorem dX6_tellsMask_136 : decode cX6_tellsMask 136 = .ok (.aload_n 0, 1) := by decide +kernel
theorem dX6_tellsMask_137 : decode cX6_tellsMask 137 = .ok (.iload_n 3, 1) := by decide +kernel
theorem dX6_tellsMask_138 : decode cX6_tellsMask 138 = .ok (.iload 7, 2) := by decide +kernel
theorem dX6_tellsMask_140 : decode cX6_tellsMask 140 = .ok (.iload 6, 2) := by decide +kernel
theorem dX6_tellsMask_142 : decode cX6_tellsMask 142 = .ok (.invokevirtual 90, 3) := by decide +kernel
theorem dX6_tellsMask_145 : decode cX6_tellsMask 145 = .ok (.i2l, 1) := by decide +kernel
theorem dX6_tellsMask_146 : decode cX6_tellsMask 146 = .ok (.ladd, 1) := by decide +kernel
theorem dX6_tellsMask_147 : decode cX6_tellsMask 147 = .ok (.lstore 4, 2) := by decide +kernel
theorem dX6_tellsMask_149 : decode cX6_tellsMask 149 = .ok (.ldc2_w 238, 3) := by decide +kernel
theorem dX6_tellsMask_152 : decode cX6_tellsMask 152 = .ok (.lload 4, 2) := by decide +kernel
theorem dX6_tellsMask_154 : decode cX6_tellsMask 154 = .ok (.lmul, 1) := by decide +kernel
theorem dX6_tellsMask_155 : decode cX6_tellsMask 155 = .ok (.aload_n 0, 1) := by decide +kernel
theorem dX6_tellsMask_156 : decode cX6_tellsMask 156 = .ok (.iload_n 3, 1) := by decide +kernel
theorem dX6_tellsMask_157 : decode cX6_tellsMask 157 = .ok (.iload 7, 2) := by decide +kernel
theorem dX6_tellsMask_159 : decode cX6_tellsMask 159 = .ok (.iload 6, 2) := by decide +kernel
theorem dX6_tellsMask_161 : decode cX6_tellsMask 161 = .ok (.iconst 2, 1) := by decide +kernel
theorem dX6_tellsMask_162 : decode cX6_tellsMask 162 = .ok (.invokevirtual 170, 3) := by decide +kernel
theorem dX6_tellsMask_165 : decode cX6_tellsMask 165 = .ok (.i2l, 1) := by decide +kernel
theorem dX6_tellsMask_166 : decode cX6_tellsMask 166 = .ok (.ladd, 1) := by decide +kernel
theorem dX6_tellsMask_167 : decode cX6_tellsMask 167 = .ok (.lstore 4, 2) := by decide +kernel
theorem dX6_tellsMask_169 : decode cX6_tellsMask 169 = .ok (.ldc2_w 238, 3) := by decide +kernel
theorem dX6_tellsMask_172 : decode cX6_tellsMask 172 = .ok (.lload 4, 2) := by decide +kernel
theorem dX6_tellsMask_174 : decode cX6_tellsMask 174 = .ok (.lmul, 1) := by decide +kernel
theorem dX6_tellsMask_175 : decode cX6_tellsMask 175 = .ok (.aload_n 0, 1) := by decide +kernel
theorem dX6_tellsMask_176 : decode cX6_tellsMask 176 = .ok (.getfield 34, 3) := by decide +kernel
theorem dX6_tellsMask_179 : decode cX6_tellsMask 179 = .ok (.bipush 16, 2) := by decide +kernel
theorem dX6_tellsMask_181 : decode cX6_tellsMask 181 = .ok (.iload 6, 2) := by decide +kernel
theorem dX6_tellsMask_183 : decode cX6_tellsMask 183 = .ok (.imul, 1) := by decide +kernel
theorem dX6_tellsMask_184 : decode cX6_tellsMask 184 = .ok (.iload 7, 2) := by decide +kernel
theorem dX6_tellsMask_186 : decode cX6_tellsMask 186 = .ok (.iadd, 1) := by decide +kernel
theorem dX6_tellsMask_187 : decode cX6_tellsMask 187 = .ok (.iaload, 1) := by decide +kernel
theorem dX6_tellsMask_188 : decode cX6_tellsMask 188 = .ok (.i2l, 1) := by decide +kernel
theorem dX6_tellsMask_189 : decode cX6_tellsMask 189 = .ok (.ladd, 1) := by decide +kernel
theorem dX6_tellsMask_190 : decode cX6_tellsMask 190 = .ok (.lstore 4, 2) := by decide +kernel
theorem dX6_tellsMask_192 : decode cX6_tellsMask 192 = .ok (.ldc2_w 238, 3) := by decide +kernel
theorem dX6_tellsMask_195 : decode cX6_tellsMask 195 = .ok (.lload 4, 2) := by decide +kernel
theorem dX6_tellsMask_197 : decode cX6_tellsMask 197 = .ok (.lmul, 1) := by decide +kernel
theorem dX6_tellsMask_198 : decode cX6_tellsMask 198 = .ok (.aload_n 0, 1) := by decide +kernel
theorem dX6_tellsMask_199 : decode cX6_tellsMask 199 = .ok (.iload_n 3, 1) := by decide +kernel
theorem dX6_tellsMask_200 : decode cX6_tellsMask 200 = .ok (.iload 7, 2) := by decide +kernel
theorem dX6_tellsMask_202 : decode cX6_tellsMask 202 = .ok (.iload 6, 2) := by decide +kernel
theorem dX6_tellsMask_204 : decode cX6_tellsMask 204 = .ok (.invokevirtual 141, 3) := by decide +kernel
theorem dX6_tellsMask_207 : decode cX6_tellsMask 207 = .ok (.i2l, 1) := by decide +kernel
theorem dX6_tellsMask_208 : decode cX6_tellsMask 208 = .ok (.ladd, 1) := by decide +kernel
theorem dX6_tellsMask_209 : decode cX6_tellsMask 209 = .ok (.lstore 4, 2) := by decide +kernel
theorem dX6_tellsMask_211 : decode cX6_tellsMask 211 = .ok (.iinc 7 5, 3) := by decide +kernel
theorem dX6_tellsMask_214 : decode cX6_tellsMask 214 = .ok (.goto (-91), 3) := by decide +kernel
theorem dX6_tellsMask_217 : decode cX6_tellsMask 217 = .ok (.iinc 6 3, 3) := by decide +kernel
theorem dX6_tellsMask_220 : decode cX6_tellsMask 220 = .ok (.goto (-107), 3) := by decide +kernel
theorem dX6_tellsMask_223 : decode cX6_tellsMask 223 = .ok (.iconst 0, 1) := by decide +kernel
theorem dX6_tellsMask_224 : decode cX6_tellsMask 224 = .ok (.istore 6, 2) := by decide +kernel
theorem dX6_tellsMask_226 : decode cX6_tellsMask 226 = .ok (.iload 6, 2) := by decide +kernel
theorem dX6_tellsMask_228 : decode cX6_tellsMask 228 = .ok (.iconst 4, 1) := by decide +kernel
theorem dX6_tellsMask_229 : decode cX6_tellsMask 229 = .ok (.if_icmp .ge 58, 3) := by decide +kernel
theorem dX6_tellsMask_232 : decode cX6_tellsMask 232 = .ok (.iconst 0, 1) := by decide +kernel
theorem dX6_tellsMask_233 : decode cX6_tellsMask 233 = .ok (.istore 7, 2) := by decide +kernel
theorem dX6_tellsMask_235 : decode cX6_tellsMask 235 = .ok (.iload 7, 2) := by decide +kernel
theorem dX6_tellsMask_237 : decode cX6_tellsMask 237 = .ok (.bipush 6, 2) := by decide +kernel
theorem dX6_tellsMask_239 : decode cX6_tellsMask 239 = .ok (.if_icmp .ge 42, 3) := by decide +kernel
theorem dX6_tellsMask_242 : decode cX6_tellsMask 242 = .ok (.ldc2_w 238, 3) := by decide +kernel
theorem dX6_tellsMask_245 : decode cX6_tellsMask 245 = .ok (.lload 4, 2) := by decide +kernel
theorem dX6_tellsMask_247 : decode cX6_tellsMask 247 = .ok (.lmul, 1) := by decide +kernel
theorem dX6_tellsMask_248 : decode cX6_tellsMask 248 = .ok (.iload 6, 2) := by decide +kernel
theorem dX6_tellsMask_250 : decode cX6_tellsMask 250 = .ok (.aload_n 0, 1) := by decide +kernel
theorem dX6_tellsMask_251 : decode cX6_tellsMask 251 = .ok (.getfield 144, 3) := by decide +kernel
theorem dX6_tellsMask_254 : decode cX6_tellsMask 254 = .ok (.if_icmp .ge 15, 3) := by decide +kernel
theorem dX6_tellsMask_257 : decode cX6_tellsMask 257 = .ok (.aload_n 0, 1) := by decide +kernel
theorem dX6_tellsMask_258 : decode cX6_tellsMask 258 = .ok (.iload_n 3, 1) := by decide +kernel
theorem dX6_tellsMask_259 : decode cX6_tellsMask 259 = .ok (.iload 6, 2) := by decide +kernel
theorem dX6_tellsMask_261 : decode cX6_tellsMask 261 = .ok (.iload 7, 2) := by decide +kernel
theorem dX6_tellsMask_263 : decode cX6_tellsMask 263 = .ok (.invokevirtual 219, 3) := by decide +kernel
theorem dX6_tellsMask_266 : decode cX6_tellsMask 266 = .ok (.goto 5, 3) := by decide +kernel
theorem dX6_tellsMask_269 : decode cX6_tellsMask 269 = .ok (.bipush (-2), 2) := by decide +kernel
theorem dX6_tellsMask_271 : decode cX6_tellsMask 271 = .ok (.i2l, 1) := by decide +kernel
theorem dX6_tellsMask_272 : decode cX6_tellsMask 272 = .ok (.ladd, 1) := by decide +kernel
theorem dX6_tellsMask_273 : decode cX6_tellsMask 273 = .ok (.lstore 4, 2) := by decide +kernel
theorem dX6_tellsMask_275 : decode cX6_tellsMask 275 = .ok (.iinc 7 1, 3) := by decide +kernel
theorem dX6_tellsMask_278 : decode cX6_tellsMask 278 = .ok (.goto (-43), 3) := by decide +kernel
theorem dX6_tellsMask_281 : decode cX6_tellsMask 281 = .ok (.iinc 6 1, 3) := by decide +kernel
theorem dX6_tellsMask_284 : decode cX6_tellsMask 284 = .ok (.goto (-58), 3) := by decide +kernel
theorem dX6_tellsMask_287 : decode cX6_tellsMask 287 = .ok (.iconst 0, 1) := by decide +kernel
theorem dX6_tellsMask_288 : decode cX6_tellsMask 288 = .ok (.istore 6, 2) := by decide +kernel
theorem dX6_tellsMask_290 : decode cX6_tellsMask 290 = .ok (.iload 6, 2) := by decide +kernel
theorem dX6_tellsMask_292 : decode cX6_tellsMask 292 = .ok (.iconst 4, 1) := by decide +kernel
theorem dX6_tellsMask_293 : decode cX6_tellsMask 293 = .ok (.if_icmp .ge 43, 3) := by decide +kernel
theorem dX6_tellsMask_296 : decode cX6_tellsMask 296 = .ok (.iconst 0, 1) := by decide +kernel
theorem dX6_tellsMask_297 : decode cX6_tellsMask 297 = .ok (.istore 7, 2) := by decide +kernel
theorem dX6_tellsMask_299 : decode cX6_tellsMask 299 = .ok (.iload 7, 2) := by decide +kernel
theorem dX6_tellsMask_301 : decode cX6_tellsMask 301 = .ok (.iconst 4, 1) := by decide +kernel
theorem dX6_tellsMask_302 : decode cX6_tellsMask 302 = .ok (.if_icmp .ge 28, 3) := by decide +kernel
theorem dX6_tellsMask_305 : decode cX6_tellsMask 305 = .ok (.ldc2_w 238, 3) := by decide +kernel
theorem dX6_tellsMask_308 : decode cX6_tellsMask 308 = .ok (.lload 4, 2) := by decide +kernel
theorem dX6_tellsMask_310 : decode cX6_tellsMask 310 = .ok (.lmul, 1) := by decide +kernel
theorem dX6_tellsMask_311 : decode cX6_tellsMask 311 = .ok (.aload_n 0, 1) := by decide +kernel
theorem dX6_tellsMask_312 : decode cX6_tellsMask 312 = .ok (.iload_n 3, 1) := by decide +kernel
theorem dX6_tellsMask_313 : decode cX6_tellsMask 313 = .ok (.iload 6, 2) := by decide +kernel
theorem dX6_tellsMask_315 : decode cX6_tellsMask 315 = .ok (.iload 7, 2) := by decide +kernel
theorem dX6_tellsMask_317 : decode cX6_tellsMask 317 = .ok (.invokevirtual 225, 3) := by decide +kernel
theorem dX6_tellsMask_320 : decode cX6_tellsMask 320 = .ok (.i2l, 1) := by decide +kernel
theorem dX6_tellsMask_321 : decode cX6_tellsMask 321 = .ok (.ladd, 1) := by decide +kernel
theorem dX6_tellsMask_322 : decode cX6_tellsMask 322 = .ok (.lstore 4, 2) := by decide +kernel
theorem dX6_tellsMask_324 : decode cX6_tellsMask 324 = .ok (.iinc 7 1, 3) := by decide +kernel
theorem dX6_tellsMask_327 : decode cX6_tellsMask 327 = .ok (.goto (-28), 3) := by decide +kernel
theorem dX6_tellsMask_330 : decode cX6_tellsMask 330 = .ok (.iinc 6 1, 3) := by decide +kernel
theorem dX6_tellsMask_333 : decode cX6_tellsMask 333 = .ok (.goto (-43), 3) := by decide +kernel
theorem dX6_tellsMask_336 : decode cX6_tellsMask 336 = .ok (.lload 4, 2) := by decide +kernel
theorem dX6_tellsMask_338 : decode cX6_tellsMask 338 = .ok (.lreturn, 1) := by decide +kernel
set_option maxRecDepth 20000 in
theorem ggX6_digest_X6_count : GoodIn wsX6_digest wsX6_count := goodIn_r _ [7, 8, 9, 10, 11, 12, 6, 13, 14, 15, 16, 17, 18, 19, 20, 21, 22, 23, 24, 25, 26, 27, 28, 29, 30, 31, 32, 33, 34, 35, 36, 37, 38, 39, 40, 41, 42, 43, 44, 45, 46, 47, 48, 49, 50, 51, 52, 53, 54, 55, 56, 57, 58, 59, 60, 61, 62, 63, 64, 65, 66, 67, 68, 69, 70, 71, 72, 73, 74, 75, 76, 77, 78, 79, 80, 81, 82, 83, 84, 85, 132, 133, 134, 135, 136, 137, 138, 139, 140, 141, 142, 143, 144, 145, 146, 147, 148, 149, 150, 151, 152] (by decide +kernel) (by decide +kernel)
set_option maxRecDepth 20000 in
theorem gX6_digest_X6_count : GoodIn wsX6_digest (wsV RX6 242 RX6 yX6_count wsX6_count) := goodIn_app (goodIn_of _ (by decide +kernel)) ggX6_digest_X6_count
set_option maxRecDepth 20000 in
theorem ggX6_digest_X6_tellsMask : GoodIn wsX6_digest wsX6_tellsMask := goodIn_r _ [89, 2, 76, 71, 30, 31, 32, 6, 33, 34, 35, 36, 37, 38, 39, 40, 41, 42, 43, 44, 45, 46, 47, 48, 49, 50, 51, 52, 18, 14, 15, 16, 17, 19, 20, 21, 22, 23, 24, 25, 53, 54, 55, 56, 57, 58, 59, 60, 61, 62, 90, 91, 92, 93, 67, 68, 69, 70, 72, 73, 74, 75, 77, 78, 79, 80, 81, 94, 95, 96, 97, 98, 99, 100, 101, 102, 103, 104, 105, 10, 11, 12, 13, 106, 107, 108, 109, 110, 111, 112, 113, 114, 115, 116, 117, 118, 119, 120, 121, 122, 123, 124, 125, 126, 127, 128, 129, 130, 131, 132, 133, 134, 135, 136, 137, 138, 139, 140, 141, 142, 143, 144, 145, 146, 147, 148, 149, 150, 151, 152] (by decide +kernel) (by decide +kernel)
set_option maxRecDepth 20000 in
theorem gX6_digest_X6_tellsMask : GoodIn wsX6_digest (wsV RX6 245 RX6 yX6_tellsMask wsX6_tellsMask) := goodIn_app (goodIn_of _ (by decide +kernel)) ggX6_digest_X6_tellsMask
theorem dX6_digest_0 : decode cX6_digest 0 = .ok (.ldc2_w 240, 3) := by decide +kernel
theorem dX6_digest_3 : decode cX6_digest 3 = .ok (.lstore_n 1, 1) := by decide +kernel
theorem dX6_digest_4 : decode cX6_digest 4 = .ok (.iconst 0, 1) := by decide +kernel
theorem dX6_digest_5 : decode cX6_digest 5 = .ok (.istore_n 3, 1) := by decide +kernel
theorem dX6_digest_6 : decode cX6_digest 6 = .ok (.iload_n 3, 1) := by decide +kernel
theorem dX6_digest_7 : decode cX6_digest 7 = .ok (.bipush 8, 2) := by decide +kernel
theorem dX6_digest_9 : decode cX6_digest 9 = .ok (.if_icmp .ge 22, 3) := by decide +kernel
theorem dX6_digest_12 : decode cX6_digest 12 = .ok (.ldc2_w 238, 3) := by decide +kernel
theorem dX6_digest_15 : decode cX6_digest 15 = .ok (.lload_n 1, 1) := by decide +kernel
theorem dX6_digest_16 : decode cX6_digest 16 = .ok (.lmul, 1) := by decide +kernel
theorem dX6_digest_17 : decode cX6_digest 17 = .ok (.aload_n 0, 1) := by decide +kernel
theorem dX6_digest_18 : decode cX6_digest 18 = .ok (.iload_n 3, 1) := by decide +kernel
theorem dX6_digest_19 : decode cX6_digest 19 = .ok (.invokevirtual 242, 3) := by decide +kernel
theorem dX6_digest_22 : decode cX6_digest 22 = .ok (.i2l, 1) := by decide +kernel
theorem dX6_digest_23 : decode cX6_digest 23 = .ok (.ladd, 1) := by decide +kernel
theorem dX6_digest_24 : decode cX6_digest 24 = .ok (.lstore_n 1, 1) := by decide +kernel
theorem dX6_digest_25 : decode cX6_digest 25 = .ok (.iinc 3 1, 3) := by decide +kernel
theorem dX6_digest_28 : decode cX6_digest 28 = .ok (.goto (-22), 3) := by decide +kernel
theorem dX6_digest_31 : decode cX6_digest 31 = .ok (.iconst 0, 1) := by decide +kernel
theorem dX6_digest_32 : decode cX6_digest 32 = .ok (.istore_n 3, 1) := by decide +kernel
theorem dX6_digest_33 : decode cX6_digest 33 = .ok (.iload_n 3, 1) := by decide +kernel
theorem dX6_digest_34 : decode cX6_digest 34 = .ok (.iconst 4, 1) := by decide +kernel
theorem dX6_digest_35 : decode cX6_digest 35 = .ok (.if_icmp .ge 16, 3) := by decide +kernel
theorem dX6_digest_38 : decode cX6_digest 38 = .ok (.aload_n 0, 1) := by decide +kernel
theorem dX6_digest_39 : decode cX6_digest 39 = .ok (.lload_n 1, 1) := by decide +kernel
theorem dX6_digest_40 : decode cX6_digest 40 = .ok (.iload_n 3, 1) := by decide +kernel
theorem dX6_digest_41 : decode cX6_digest 41 = .ok (.invokevirtual 245, 3) := by decide +kernel
theorem dX6_digest_44 : decode cX6_digest 44 = .ok (.lstore_n 1, 1) := by decide +kernel
theorem dX6_digest_45 : decode cX6_digest 45 = .ok (.iinc 3 1, 3) := by decide +kernel
theorem dX6_digest_48 : decode cX6_digest 48 = .ok (.goto (-15), 3) := by decide +kernel
theorem dX6_digest_51 : decode cX6_digest 51 = .ok (.lload_n 1, 1) := by decide +kernel
theorem dX6_digest_52 : decode cX6_digest 52 = .ok (.lreturn, 1) := by decide +kernel
theorem dJ6_bitCount_0f7a4_0 : decode cJ6_bitCount_0f7a4 0 = .ok (.iload_n 0, 1) := by decide +kernel
theorem dJ6_bitCount_0f7a4_1 : decode cJ6_bitCount_0f7a4 1 = .ok (.iload_n 0, 1) := by decide +kernel
theorem dJ6_bitCount_0f7a4_2 : decode cJ6_bitCount_0f7a4 2 = .ok (.iconst 1, 1) := by decide +kernel
theorem dJ6_bitCount_0f7a4_3 : decode cJ6_bitCount_0f7a4 3 = .ok (.iushr, 1) := by decide +kernel
theorem dJ6_bitCount_0f7a4_4 : decode cJ6_bitCount_0f7a4 4 = .ok (.ldc_w 265, 3) := by decide +kernel
theorem dJ6_bitCount_0f7a4_7 : decode cJ6_bitCount_0f7a4 7 = .ok (.iand, 1) := by decide +kernel
theorem dJ6_bitCount_0f7a4_8 : decode cJ6_bitCount_0f7a4 8 = .ok (.isub, 1) := by decide +kernel
theorem dJ6_bitCount_0f7a4_9 : decode cJ6_bitCount_0f7a4 9 = .ok (.istore_n 0, 1) := by decide +kernel
theorem dJ6_bitCount_0f7a4_10 : decode cJ6_bitCount_0f7a4 10 = .ok (.iload_n 0, 1) := by decide +kernel
theorem dJ6_bitCount_0f7a4_11 : decode cJ6_bitCount_0f7a4 11 = .ok (.ldc_w 266, 3) := by decide +kernel
theorem dJ6_bitCount_0f7a4_14 : decode cJ6_bitCount_0f7a4 14 = .ok (.iand, 1) := by decide +kernel
theorem dJ6_bitCount_0f7a4_15 : decode cJ6_bitCount_0f7a4 15 = .ok (.iload_n 0, 1) := by decide +kernel
theorem dJ6_bitCount_0f7a4_16 : decode cJ6_bitCount_0f7a4 16 = .ok (.iconst 2, 1) := by decide +kernel
theorem dJ6_bitCount_0f7a4_17 : decode cJ6_bitCount_0f7a4 17 = .ok (.iushr, 1) := by decide +kernel
theorem dJ6_bitCount_0f7a4_18 : decode cJ6_bitCount_0f7a4 18 = .ok (.ldc_w 266, 3) := by decide +kernel
theorem dJ6_bitCount_0f7a4_21 : decode cJ6_bitCount_0f7a4 21 = .ok (.iand, 1) := by decide +kernel
theorem dJ6_bitCount_0f7a4_22 : decode cJ6_bitCount_0f7a4 22 = .ok (.iadd, 1) := by decide +kernel
theorem dJ6_bitCount_0f7a4_23 : decode cJ6_bitCount_0f7a4 23 = .ok (.istore_n 0, 1) := by decide +kernel
theorem dJ6_bitCount_0f7a4_24 : decode cJ6_bitCount_0f7a4 24 = .ok (.iload_n 0, 1) := by decide +kernel
theorem dJ6_bitCount_0f7a4_25 : decode cJ6_bitCount_0f7a4 25 = .ok (.iload_n 0, 1) := by decide +kernel
theorem dJ6_bitCount_0f7a4_26 : decode cJ6_bitCount_0f7a4 26 = .ok (.iconst 4, 1) := by decide +kernel
theorem dJ6_bitCount_0f7a4_27 : decode cJ6_bitCount_0f7a4 27 = .ok (.iushr, 1) := by decide +kernel
theorem dJ6_bitCount_0f7a4_28 : decode cJ6_bitCount_0f7a4 28 = .ok (.iadd, 1) := by decide +kernel
theorem dJ6_bitCount_0f7a4_29 : decode cJ6_bitCount_0f7a4 29 = .ok (.ldc_w 267, 3) := by decide +kernel
theorem dJ6_bitCount_0f7a4_32 : decode cJ6_bitCount_0f7a4 32 = .ok (.iand, 1) := by decide +kernel
theorem dJ6_bitCount_0f7a4_33 : decode cJ6_bitCount_0f7a4 33 = .ok (.istore_n 0, 1) := by decide +kernel
theorem dJ6_bitCount_0f7a4_34 : decode cJ6_bitCount_0f7a4 34 = .ok (.iload_n 0, 1) := by decide +kernel
theorem dJ6_bitCount_0f7a4_35 : decode cJ6_bitCount_0f7a4 35 = .ok (.iload_n 0, 1) := by decide +kernel
theorem dJ6_bitCount_0f7a4_36 : decode cJ6_bitCount_0f7a4 36 = .ok (.bipush 8, 2) := by decide +kernel
theorem dJ6_bitCount_0f7a4_38 : decode cJ6_bitCount_0f7a4 38 = .ok (.iushr, 1) := by decide +kernel
theorem dJ6_bitCount_0f7a4_39 : decode cJ6_bitCount_0f7a4 39 = .ok (.iadd, 1) := by decide +kernel
theorem dJ6_bitCount_0f7a4_40 : decode cJ6_bitCount_0f7a4 40 = .ok (.istore_n 0, 1) := by decide +kernel
theorem dJ6_bitCount_0f7a4_41 : decode cJ6_bitCount_0f7a4 41 = .ok (.iload_n 0, 1) := by decide +kernel
theorem dJ6_bitCount_0f7a4_42 : decode cJ6_bitCount_0f7a4 42 = .ok (.iload_n 0, 1) := by decide +kernel
theorem dJ6_bitCount_0f7a4_43 : decode cJ6_bitCount_0f7a4 43 = .ok (.bipush 16, 2) := by decide +kernel
theorem dJ6_bitCount_0f7a4_45 : decode cJ6_bitCount_0f7a4 45 = .ok (.iushr, 1) := by decide +kernel
theorem dJ6_bitCount_0f7a4_46 : decode cJ6_bitCount_0f7a4 46 = .ok (.iadd, 1) := by decide +kernel
theorem dJ6_bitCount_0f7a4_47 : decode cJ6_bitCount_0f7a4 47 = .ok (.istore_n 0, 1) := by decide +kernel
theorem dJ6_bitCount_0f7a4_48 : decode cJ6_bitCount_0f7a4 48 = .ok (.iload_n 0, 1) := by decide +kernel
theorem dJ6_bitCount_0f7a4_49 : decode cJ6_bitCount_0f7a4 49 = .ok (.bipush 63, 2) := by decide +kernel
theorem dJ6_bitCount_0f7a4_51 : decode cJ6_bitCount_0f7a4 51 = .ok (.iand, 1) := by decide +kernel
theorem dJ6_bitCount_0f7a4_52 : decode cJ6_bitCount_0f7a4 52 = .ok (.ireturn, 1) := by decide +kernel
theorem dJ9_floorMod_7cf53_0 : decode cJ9_floorMod_7cf53 0 = .ok (.iload_n 0, 1) := by decide +kernel
theorem dJ9_floorMod_7cf53_1 : decode cJ9_floorMod_7cf53 1 = .ok (.iload_n 1, 1) := by decide +kernel
theorem dJ9_floorMod_7cf53_2 : decode cJ9_floorMod_7cf53 2 = .ok (.irem, 1) := by decide +kernel
theorem dJ9_floorMod_7cf53_3 : decode cJ9_floorMod_7cf53 3 = .ok (.istore_n 2, 1) := by decide +kernel
theorem dJ9_floorMod_7cf53_4 : decode cJ9_floorMod_7cf53 4 = .ok (.iload_n 0, 1) := by decide +kernel
theorem dJ9_floorMod_7cf53_5 : decode cJ9_floorMod_7cf53 5 = .ok (.iload_n 1, 1) := by decide +kernel
theorem dJ9_floorMod_7cf53_6 : decode cJ9_floorMod_7cf53 6 = .ok (.ixor, 1) := by decide +kernel
theorem dJ9_floorMod_7cf53_7 : decode cJ9_floorMod_7cf53 7 = .ok (.ifCond .ge 11, 3) := by decide +kernel
theorem dJ9_floorMod_7cf53_10 : decode cJ9_floorMod_7cf53 10 = .ok (.iload_n 2, 1) := by decide +kernel
theorem dJ9_floorMod_7cf53_11 : decode cJ9_floorMod_7cf53 11 = .ok (.ifCond .eq 7, 3) := by decide +kernel
theorem dJ9_floorMod_7cf53_14 : decode cJ9_floorMod_7cf53 14 = .ok (.iload_n 2, 1) := by decide +kernel
theorem dJ9_floorMod_7cf53_15 : decode cJ9_floorMod_7cf53 15 = .ok (.iload_n 1, 1) := by decide +kernel
theorem dJ9_floorMod_7cf53_16 : decode cJ9_floorMod_7cf53 16 = .ok (.iadd, 1) := by decide +kernel
theorem dJ9_floorMod_7cf53_17 : decode cJ9_floorMod_7cf53 17 = .ok (.ireturn, 1) := by decide +kernel
theorem dJ9_floorMod_7cf53_18 : decode cJ9_floorMod_7cf53 18 = .ok (.iload_n 2, 1) := by decide +kernel
theorem dJ9_floorMod_7cf53_19 : decode cJ9_floorMod_7cf53 19 = .ok (.ireturn, 1) := by decide +kernel
theorem dJ9_abs_0f7a4_0 : decode cJ9_abs_0f7a4 0 = .ok (.iload_n 0, 1) := by decide +kernel
theorem dJ9_abs_0f7a4_1 : decode cJ9_abs_0f7a4 1 = .ok (.ifCond .ge 8, 3) := by decide +kernel
theorem dJ9_abs_0f7a4_4 : decode cJ9_abs_0f7a4 4 = .ok (.iload_n 0, 1) := by decide +kernel
theorem dJ9_abs_0f7a4_5 : decode cJ9_abs_0f7a4 5 = .ok (.ineg, 1) := by decide +kernel
theorem dJ9_abs_0f7a4_6 : decode cJ9_abs_0f7a4 6 = .ok (.goto 4, 3) := by decide +kernel
theorem dJ9_abs_0f7a4_9 : decode cJ9_abs_0f7a4 9 = .ok (.iload_n 0, 1) := by decide +kernel
theorem dJ9_abs_0f7a4_10 : decode cJ9_abs_0f7a4 10 = .ok (.ireturn, 1) := by decide +kernel
theorem dJ9_max_7cf53_0 : decode cJ9_max_7cf53 0 = .ok (.iload_n 0, 1) := by decide +kernel
theorem dJ9_max_7cf53_1 : decode cJ9_max_7cf53 1 = .ok (.iload_n 1, 1) := by decide +kernel
theorem dJ9_max_7cf53_2 : decode cJ9_max_7cf53 2 = .ok (.if_icmp .lt 7, 3) := by decide +kernel
theorem dJ9_max_7cf53_5 : decode cJ9_max_7cf53 5 = .ok (.iload_n 0, 1) := by decide +kernel
theorem dJ9_max_7cf53_6 : decode cJ9_max_7cf53 6 = .ok (.goto 4, 3) := by decide +kernel
theorem dJ9_max_7cf53_9 : decode cJ9_max_7cf53 9 = .ok (.iload_n 1, 1) := by decide +kernel
theorem dJ9_max_7cf53_10 : decode cJ9_max_7cf53 10 = .ok (.ireturn, 1) := by decide +kernel
theorem dJ9_min_7cf53_0 : decode cJ9_min_7cf53 0 = .ok (.iload_n 0, 1) := by decide +kernel
theorem dJ9_min_7cf53_1 : decode cJ9_min_7cf53 1 = .ok (.iload_n 1, 1) := by decide +kernel
theorem dJ9_min_7cf53_2 : decode cJ9_min_7cf53 2 = .ok (.if_icmp .gt 7, 3) := by decide +kernel
theorem dJ9_min_7cf53_5 : decode cJ9_min_7cf53 5 = .ok (.iload_n 0, 1) := by decide +kernel
theorem dJ9_min_7cf53_6 : decode cJ9_min_7cf53 6 = .ok (.goto 4, 3) := by decide +kernel
theorem dJ9_min_7cf53_9 : decode cJ9_min_7cf53 9 = .ok (.iload_n 1, 1) := by decide +kernel
theorem dJ9_min_7cf53_10 : decode cJ9_min_7cf53 10 = .ok (.ireturn, 1) := by decide +kernel
theorem dJ7_fill_53178_0 : decode cJ7_fill_53178 0 = .ok (.iconst 0, 1) := by decide +kernel
theorem dJ7_fill_53178_1 : decode cJ7_fill_53178 1 = .ok (.istore_n 2, 1) := by decide +kernel
theorem dJ7_fill_53178_2 : decode cJ7_fill_53178 2 = .ok (.aload_n 0, 1) := by decide +kernel
theorem dJ7_fill_53178_3 : decode cJ7_fill_53178 3 = .ok (.arraylength, 1) := by decide +kernel
theorem dJ7_fill_53178_4 : decode cJ7_fill_53178 4 = .ok (.istore_n 3, 1) := by decide +kernel
theorem dJ7_fill_53178_5 : decode cJ7_fill_53178 5 = .ok (.iload_n 2, 1) := by decide +kernel
theorem dJ7_fill_53178_6 : decode cJ7_fill_53178 6 = .ok (.iload_n 3, 1) := by decide +kernel
theorem dJ7_fill_53178_7 : decode cJ7_fill_53178 7 = .ok (.if_icmp .ge 13, 3) := by decide +kernel
theorem dJ7_fill_53178_10 : decode cJ7_fill_53178 10 = .ok (.aload_n 0, 1) := by decide +kernel
theorem dJ7_fill_53178_11 : decode cJ7_fill_53178 11 = .ok (.iload_n 2, 1) := by decide +kernel
theorem dJ7_fill_53178_12 : decode cJ7_fill_53178 12 = .ok (.iload_n 1, 1) := by decide +kernel
theorem dJ7_fill_53178_13 : decode cJ7_fill_53178 13 = .ok (.iastore, 1) := by decide +kernel
theorem dJ7_fill_53178_14 : decode cJ7_fill_53178 14 = .ok (.iinc 2 1, 3) := by decide +kernel
theorem dJ7_fill_53178_17 : decode cJ7_fill_53178 17 = .ok (.goto (-12), 3) := by decide +kernel
theorem dJ7_fill_53178_20 : decode cJ7_fill_53178 20 = .ok (.return_, 1) := by decide +kernel
