theorem dX1_wordAt_68 : decode cX1_wordAt 68 = .ok (.iload 7, 2) := by decide +kernel
theorem dX1_wordAt_70 : decode cX1_wordAt 70 = .ok (.invokevirtual 175, 3) := by decide +kernel
theorem dX1_wordAt_73 : decode cX1_wordAt 73 = .ok (.isub, 1) := by decide +kernel
theorem dX1_wordAt_74 : decode cX1_wordAt 74 = .ok (.istore_n 3, 1) := by decide +kernel
theorem dX1_wordAt_75 : decode cX1_wordAt 75 = .ok (.lload 4, 2) := by decide +kernel
theorem dX1_wordAt_77 : decode cX1_wordAt 77 = .ok (.iload 6, 2) := by decide +kernel
theorem dX1_wordAt_79 : decode cX1_wordAt 79 = .ok (.iload 7, 2) := by decide +kernel
theorem dX1_wordAt_81 : decode cX1_wordAt 81 = .ok (.invokestatic 181, 3) := by decide +kernel
theorem dX1_wordAt_84 : decode cX1_wordAt 84 = .ok (.lstore 4, 2) := by decide +kernel
theorem dX1_wordAt_86 : decode cX1_wordAt 86 = .ok (.aload_n 0, 1) := by decide +kernel
theorem dX1_wordAt_87 : decode cX1_wordAt 87 = .ok (.iload_n 2, 1) := by decide +kernel
theorem dX1_wordAt_88 : decode cX1_wordAt 88 = .ok (.iload 7, 2) := by decide +kernel
theorem dX1_wordAt_90 : decode cX1_wordAt 90 = .ok (.invokevirtual 102, 3) := by decide +kernel
theorem dX1_wordAt_93 : decode cX1_wordAt 93 = .ok (.istore_n 2, 1) := by decide +kernel
theorem dX1_wordAt_94 : decode cX1_wordAt 94 = .ok (.iinc 6 1, 3) := by decide +kernel
theorem dX1_wordAt_97 : decode cX1_wordAt 97 = .ok (.goto (-73), 3) := by decide +kernel
theorem dX1_wordAt_100 : decode cX1_wordAt 100 = .ok (.lconst 0, 1) := by decide +kernel
theorem dX1_wordAt_101 : decode cX1_wordAt 101 = .ok (.lreturn, 1) := by decide +kernel
set_option maxRecDepth 20000 in
theorem ggX1_letterOfRank_X1_childOf : GoodIn wsX1_letterOfRank wsX1_childOf := goodIn_r _ [6, 7, 8, 9, 10, 11, 12, 13, 14, 15, 16, 17, 18, 19, 20] (by decide +kernel) (by decide +kernel)
set_option maxRecDepth 20000 in
theorem gX1_letterOfRank_X1_childOf : GoodIn wsX1_letterOfRank (wsV RX1 102 RX1 yX1_childOf wsX1_childOf) := goodIn_app (goodIn_of _ (by decide +kernel)) ggX1_letterOfRank_X1_childOf
set_option maxRecDepth 20000 in
theorem ggX1_letterOfRank_X3_at : GoodIn wsX1_letterOfRank wsX3_at := goodIn_r _ [11] (by decide +kernel) (by decide +kernel)
set_option maxRecDepth 20000 in
theorem gX1_letterOfRank_X3_at_n85 : GoodIn wsX1_letterOfRank (wsX3_at) := ggX1_letterOfRank_X3_at
theorem dX1_letterOfRank_0 : decode cX1_letterOfRank 0 = .ok (.iload_n 2, 1) := by decide +kernel
theorem dX1_letterOfRank_1 : decode cX1_letterOfRank 1 = .ok (.istore_n 3, 1) := by decide +kernel
theorem dX1_letterOfRank_2 : decode cX1_letterOfRank 2 = .ok (.iconst 0, 1) := by decide +kernel
theorem dX1_letterOfRank_3 : decode cX1_letterOfRank 3 = .ok (.istore 4, 2) := by decide +kernel
theorem dX1_letterOfRank_5 : decode cX1_letterOfRank 5 = .ok (.iload 4, 2) := by decide +kernel
theorem dX1_letterOfRank_7 : decode cX1_letterOfRank 7 = .ok (.bipush 8, 2) := by decide +kernel
theorem dX1_letterOfRank_9 : decode cX1_letterOfRank 9 = .ok (.if_icmp .ge 53, 3) := by decide +kernel
theorem dX1_letterOfRank_12 : decode cX1_letterOfRank 12 = .ok (.aload_n 0, 1) := by decide +kernel
theorem dX1_letterOfRank_13 : decode cX1_letterOfRank 13 = .ok (.iload_n 1, 1) := by decide +kernel
theorem dX1_letterOfRank_14 : decode cX1_letterOfRank 14 = .ok (.iload 4, 2) := by decide +kernel
theorem dX1_letterOfRank_16 : decode cX1_letterOfRank 16 = .ok (.invokevirtual 102, 3) := by decide +kernel
theorem dX1_letterOfRank_19 : decode cX1_letterOfRank 19 = .ok (.istore 5, 2) := by decide +kernel
theorem dX1_letterOfRank_21 : decode cX1_letterOfRank 21 = .ok (.iload 5, 2) := by decide +kernel
theorem dX1_letterOfRank_23 : decode cX1_letterOfRank 23 = .ok (.iconst (-1), 1) := by decide +kernel
theorem dX1_letterOfRank_24 : decode cX1_letterOfRank 24 = .ok (.if_icmp .ne 7, 3) := by decide +kernel
theorem dX1_letterOfRank_27 : decode cX1_letterOfRank 27 = .ok (.iconst 0, 1) := by decide +kernel
theorem dX1_letterOfRank_28 : decode cX1_letterOfRank 28 = .ok (.goto 12, 3) := by decide +kernel
theorem dX1_letterOfRank_31 : decode cX1_letterOfRank 31 = .ok (.aload_n 0, 1) := by decide +kernel
theorem dX1_letterOfRank_32 : decode cX1_letterOfRank 32 = .ok (.getfield 37, 3) := by decide +kernel
theorem dX1_letterOfRank_35 : decode cX1_letterOfRank 35 = .ok (.iload 5, 2) := by decide +kernel
theorem dX1_letterOfRank_37 : decode cX1_letterOfRank 37 = .ok (.invokestatic 85, 3) := by decide +kernel
theorem dX1_letterOfRank_40 : decode cX1_letterOfRank 40 = .ok (.istore 6, 2) := by decide +kernel
theorem dX1_letterOfRank_42 : decode cX1_letterOfRank 42 = .ok (.iload_n 3, 1) := by decide +kernel
theorem dX1_letterOfRank_43 : decode cX1_letterOfRank 43 = .ok (.iload 6, 2) := by decide +kernel
theorem dX1_letterOfRank_45 : decode cX1_letterOfRank 45 = .ok (.if_icmp .ge 6, 3) := by decide +kernel
theorem dX1_letterOfRank_48 : decode cX1_letterOfRank 48 = .ok (.iload 4, 2) := by decide +kernel
theorem dX1_letterOfRank_50 : decode cX1_letterOfRank 50 = .ok (.ireturn, 1) := by decide +kernel
theorem dX1_letterOfRank_51 : decode cX1_letterOfRank 51 = .ok (.iload_n 3, 1) := by decide +kernel
theorem dX1_letterOfRank_52 : decode cX1_letterOfRank 52 = .ok (.iload 6, 2) := by decide +kernel
theorem dX1_letterOfRank_54 : decode cX1_letterOfRank 54 = .ok (.isub, 1) := by decide +kernel
theorem dX1_letterOfRank_55 : decode cX1_letterOfRank 55 = .ok (.istore_n 3, 1) := by decide +kernel
theorem dX1_letterOfRank_56 : decode cX1_letterOfRank 56 = .ok (.iinc 4 1, 3) := by decide +kernel
theorem dX1_letterOfRank_59 : decode cX1_letterOfRank 59 = .ok (.goto (-54), 3) := by decide +kernel
theorem dX1_letterOfRank_62 : decode cX1_letterOfRank 62 = .ok (.bipush 8, 2) := by decide +kernel
theorem dX1_letterOfRank_64 : decode cX1_letterOfRank 64 = .ok (.ireturn, 1) := by decide +kernel
theorem dX2_firstOf_0 : decode cX2_firstOf 0 = .ok (.lload_n 0, 1) := by decide +kernel
theorem dX2_firstOf_1 : decode cX2_firstOf 1 = .ok (.ldc2_w 11, 3) := by decide +kernel
theorem dX2_firstOf_4 : decode cX2_firstOf 4 = .ok (.land, 1) := by decide +kernel
theorem dX2_firstOf_5 : decode cX2_firstOf 5 = .ok (.l2i, 1) := by decide +kernel
theorem dX2_firstOf_6 : decode cX2_firstOf 6 = .ok (.ireturn, 1) := by decide +kernel
theorem dX2_withoutFirst_0 : decode cX2_withoutFirst 0 = .ok (.lload_n 0, 1) := by decide +kernel
theorem dX2_withoutFirst_1 : decode cX2_withoutFirst 1 = .ok (.iconst 4, 1) := by decide +kernel
theorem dX2_withoutFirst_2 : decode cX2_withoutFirst 2 = .ok (.lushr, 1) := by decide +kernel
theorem dX2_withoutFirst_3 : decode cX2_withoutFirst 3 = .ok (.lreturn, 1) := by decide +kernel
set_option maxRecDepth 20000 in
theorem ggX2_letterAt_X2_firstOf : GoodIn wsX2_letterAt wsX2_firstOf := goodIn_r _ [4, 5] (by decide +kernel) (by decide +kernel)
set_option maxRecDepth 20000 in
theorem gX2_letterAt_X2_firstOf : GoodIn wsX2_letterAt (va_wsS RX2 13 yX2_firstOf wsX2_firstOf) := goodIn_app (goodIn_of _ (by decide +kernel)) ggX2_letterAt_X2_firstOf
theorem dX2_letterAt_0 : decode cX2_letterAt 0 = .ok (.lload_n 0, 1) := by decide +kernel
theorem dX2_letterAt_1 : decode cX2_letterAt 1 = .ok (.iconst 4, 1) := by decide +kernel
theorem dX2_letterAt_2 : decode cX2_letterAt 2 = .ok (.iload_n 2, 1) := by decide +kernel
theorem dX2_letterAt_3 : decode cX2_letterAt 3 = .ok (.imul, 1) := by decide +kernel
theorem dX2_letterAt_4 : decode cX2_letterAt 4 = .ok (.lushr, 1) := by decide +kernel
theorem dX2_letterAt_5 : decode cX2_letterAt 5 = .ok (.invokestatic 13, 3) := by decide +kernel
theorem dX2_letterAt_8 : decode cX2_letterAt 8 = .ok (.ireturn, 1) := by decide +kernel
theorem dX2_withLetter_0 : decode cX2_withLetter 0 = .ok (.lload_n 0, 1) := by decide +kernel
theorem dX2_withLetter_1 : decode cX2_withLetter 1 = .ok (.iload_n 3, 1) := by decide +kernel
theorem dX2_withLetter_2 : decode cX2_withLetter 2 = .ok (.i2l, 1) := by decide +kernel
theorem dX2_withLetter_3 : decode cX2_withLetter 3 = .ok (.iconst 4, 1) := by decide +kernel
theorem dX2_withLetter_4 : decode cX2_withLetter 4 = .ok (.iload_n 2, 1) := by decide +kernel
theorem dX2_withLetter_5 : decode cX2_withLetter 5 = .ok (.imul, 1) := by decide +kernel
theorem dX2_withLetter_6 : decode cX2_withLetter 6 = .ok (.lshl, 1) := by decide +kernel
theorem dX2_withLetter_7 : decode cX2_withLetter 7 = .ok (.lor, 1) := by decide +kernel
theorem dX2_withLetter_8 : decode cX2_withLetter 8 = .ok (.lreturn, 1) := by decide +kernel
theorem dX2_startOf_0 : decode cX2_startOf 0 = .ok (.lload_n 0, 1) := by decide +kernel
theorem dX2_startOf_1 : decode cX2_startOf 1 = .ok (.lconst 1, 1) := by decide +kernel
theorem dX2_startOf_2 : decode cX2_startOf 2 = .ok (.iconst 4, 1) := by decide +kernel
theorem dX2_startOf_3 : decode cX2_startOf 3 = .ok (.iload_n 2, 1) := by decide +kernel
theorem dX2_startOf_4 : decode cX2_startOf 4 = .ok (.imul, 1) := by decide +kernel
theorem dX2_startOf_5 : decode cX2_startOf 5 = .ok (.lshl, 1) := by decide +kernel
theorem dX2_startOf_6 : decode cX2_startOf 6 = .ok (.lconst 1, 1) := by decide +kernel
theorem dX2_startOf_7 : decode cX2_startOf 7 = .ok (.lsub, 1) := by decide +kernel
theorem dX2_startOf_8 : decode cX2_startOf 8 = .ok (.land, 1) := by decide +kernel
theorem dX2_startOf_9 : decode cX2_startOf 9 = .ok (.lreturn, 1) := by decide +kernel
set_option maxRecDepth 20000 in
theorem ggX2_lengthOf_X2_letterAt : GoodIn wsX2_lengthOf wsX2_letterAt := goodIn_r _ [4, 5, 6, 3, 7, 8] (by decide +kernel) (by decide +kernel)
set_option maxRecDepth 20000 in
theorem gX2_lengthOf_X2_letterAt : GoodIn wsX2_lengthOf (va_wsS RX2 17 yX2_letterAt wsX2_letterAt) := goodIn_app (goodIn_of _ (by decide +kernel)) ggX2_lengthOf_X2_letterAt
theorem dX2_lengthOf_0 : decode cX2_lengthOf 0 = .ok (.iconst 0, 1) := by decide +kernel
theorem dX2_lengthOf_1 : decode cX2_lengthOf 1 = .ok (.istore_n 2, 1) := by decide +kernel
theorem dX2_lengthOf_2 : decode cX2_lengthOf 2 = .ok (.iconst 0, 1) := by decide +kernel
theorem dX2_lengthOf_3 : decode cX2_lengthOf 3 = .ok (.istore_n 3, 1) := by decide +kernel
theorem dX2_lengthOf_4 : decode cX2_lengthOf 4 = .ok (.iload_n 3, 1) := by decide +kernel
theorem dX2_lengthOf_5 : decode cX2_lengthOf 5 = .ok (.bipush 12, 2) := by decide +kernel
theorem dX2_lengthOf_7 : decode cX2_lengthOf 7 = .ok (.if_icmp .ge 20, 3) := by decide +kernel
theorem dX2_lengthOf_10 : decode cX2_lengthOf 10 = .ok (.lload_n 0, 1) := by decide +kernel
theorem dX2_lengthOf_11 : decode cX2_lengthOf 11 = .ok (.iload_n 3, 1) := by decide +kernel
theorem dX2_lengthOf_12 : decode cX2_lengthOf 12 = .ok (.invokestatic 17, 3) := by decide +kernel
theorem dX2_lengthOf_15 : decode cX2_lengthOf 15 = .ok (.ifCond .eq 6, 3) := by decide +kernel
theorem dX2_lengthOf_18 : decode cX2_lengthOf 18 = .ok (.iinc 2 1, 3) := by decide +kernel
theorem dX2_lengthOf_21 : decode cX2_lengthOf 21 = .ok (.iinc 3 1, 3) := by decide +kernel
theorem dX2_lengthOf_24 : decode cX2_lengthOf 24 = .ok (.goto (-20), 3) := by decide +kernel
theorem dX2_lengthOf_27 : decode cX2_lengthOf 27 = .ok (.iload_n 2, 1) := by decide +kernel
theorem dX2_lengthOf_28 : decode cX2_lengthOf 28 = .ok (.ireturn, 1) := by decide +kernel
set_option maxRecDepth 20000 in
theorem ggX2_begins_X2_lengthOf : GoodIn wsX2_begins wsX2_lengthOf := goodIn_r _ [4, 5, 6, 3, 7, 8, 9, 10, 11] (by decide +kernel) (by decide +kernel)
set_option maxRecDepth 20000 in
theorem gX2_begins_X2_lengthOf : GoodIn wsX2_begins (va_wsS RX2 21 yX2_lengthOf wsX2_lengthOf) := goodIn_app (goodIn_of _ (by decide +kernel)) ggX2_begins_X2_lengthOf
set_option maxRecDepth 20000 in
theorem ggX2_begins_X2_startOf : GoodIn wsX2_begins wsX2_startOf := goodIn_r _ [14] (by decide +kernel) (by decide +kernel)
set_option maxRecDepth 20000 in
theorem gX2_begins_X2_startOf : GoodIn wsX2_begins (va_wsS RX2 24 yX2_startOf wsX2_startOf) := goodIn_app (goodIn_of _ (by decide +kernel)) ggX2_begins_X2_startOf
theorem dX2_begins_0 : decode cX2_begins 0 = .ok (.lload_n 0, 1) := by decide +kernel
theorem dX2_begins_1 : decode cX2_begins 1 = .ok (.lload_n 2, 1) := by decide +kernel
theorem dX2_begins_2 : decode cX2_begins 2 = .ok (.invokestatic 21, 3) := by decide +kernel
theorem dX2_begins_5 : decode cX2_begins 5 = .ok (.invokestatic 24, 3) := by decide +kernel
theorem dX2_begins_8 : decode cX2_begins 8 = .ok (.lload_n 2, 1) := by decide +kernel
theorem dX2_begins_9 : decode cX2_begins 9 = .ok (.lcmp, 1) := by decide +kernel
theorem dX2_begins_10 : decode cX2_begins 10 = .ok (.ifCond .ne 7, 3) := by decide +kernel
theorem dX2_begins_13 : decode cX2_begins 13 = .ok (.iconst 1, 1) := by decide +kernel
theorem dX2_begins_14 : decode cX2_begins 14 = .ok (.goto 4, 3) := by decide +kernel
theorem dX2_begins_17 : decode cX2_begins 17 = .ok (.iconst 0, 1) := by decide +kernel
theorem dX2_begins_18 : decode cX2_begins 18 = .ok (.ireturn, 1) := by decide +kernel
set_option maxRecDepth 20000 in
theorem ggX2_isAhead_X2_letterAt : GoodIn wsX2_isAhead wsX2_letterAt := goodIn_r _ [4, 5, 6, 3, 7, 8] (by decide +kernel) (by decide +kernel)
set_option maxRecDepth 20000 in
theorem gX2_isAhead_X2_letterAt : GoodIn wsX2_isAhead (va_wsS RX2 17 yX2_letterAt wsX2_letterAt) := goodIn_app (goodIn_of _ (by decide +kernel)) ggX2_isAhead_X2_letterAt
theorem dX2_isAhead_0 : decode cX2_isAhead 0 = .ok (.iconst 0, 1) := by decide +kernel
theorem dX2_isAhead_1 : decode cX2_isAhead 1 = .ok (.istore 4, 2) := by decide +kernel
theorem dX2_isAhead_3 : decode cX2_isAhead 3 = .ok (.iload 4, 2) := by decide +kernel
theorem dX2_isAhead_5 : decode cX2_isAhead 5 = .ok (.bipush 12, 2) := by decide +kernel
theorem dX2_isAhead_7 : decode cX2_isAhead 7 = .ok (.if_icmp .ge 45, 3) := by decide +kernel
theorem dX2_isAhead_10 : decode cX2_isAhead 10 = .ok (.lload_n 0, 1) := by decide +kernel
theorem dX2_isAhead_11 : decode cX2_isAhead 11 = .ok (.iload 4, 2) := by decide +kernel
theorem dX2_isAhead_13 : decode cX2_isAhead 13 = .ok (.invokestatic 17, 3) := by decide +kernel
theorem dX2_isAhead_16 : decode cX2_isAhead 16 = .ok (.istore 5, 2) := by decide +kernel
theorem dX2_isAhead_18 : decode cX2_isAhead 18 = .ok (.lload_n 2, 1) := by decide +kernel
theorem dX2_isAhead_19 : decode cX2_isAhead 19 = .ok (.iload 4, 2) := by decide +kernel
theorem dX2_isAhead_21 : decode cX2_isAhead 21 = .ok (.invokestatic 17, 3) := by decide +kernel
theorem dX2_isAhead_24 : decode cX2_isAhead 24 = .ok (.istore 6, 2) := by decide +kernel
theorem dX2_isAhead_26 : decode cX2_isAhead 26 = .ok (.iload 5, 2) := by decide +kernel
theorem dX2_isAhead_28 : decode cX2_isAhead 28 = .ok (.iload 6, 2) := by decide +kernel
theorem dX2_isAhead_30 : decode cX2_isAhead 30 = .ok (.if_icmp .eq 16, 3) := by decide +kernel
theorem dX2_isAhead_33 : decode cX2_isAhead 33 = .ok (.iload 5, 2) := by decide +kernel
theorem dX2_isAhead_35 : decode cX2_isAhead 35 = .ok (.iload 6, 2) := by decide +kernel
theorem dX2_isAhead_37 : decode cX2_isAhead 37 = .ok (.if_icmp .ge 7, 3) := by decide +kernel
theorem dX2_isAhead_40 : decode cX2_isAhead 40 = .ok (.iconst 1, 1) := by decide +kernel
theorem dX2_isAhead_41 : decode cX2_isAhead 41 = .ok (.goto 4, 3) := by decide +kernel
theorem dX2_isAhead_44 : decode cX2_isAhead 44 = .ok (.iconst 0, 1) := by decide +kernel
theorem dX2_isAhead_45 : decode cX2_isAhead 45 = .ok (.ireturn, 1) := by decide +kernel
theorem dX2_isAhead_46 : decode cX2_isAhead 46 = .ok (.iinc 4 1, 3) := by decide +kernel
theorem dX2_isAhead_49 : decode cX2_isAhead 49 = .ok (.goto (-46), 3) := by decide +kernel
theorem dX2_isAhead_52 : decode cX2_isAhead 52 = .ok (.iconst 0, 1) := by decide +kernel
theorem dX2_isAhead_53 : decode cX2_isAhead 53 = .ok (.ireturn, 1) := by decide +kernel
set_option maxRecDepth 20000 in
theorem ggX3_init_X1_init : GoodIn wsX3_init wsX1_init := goodIn_r _ [15, 16, 2, 3, 17, 18, 19, 20, 21, 22, 23, 24, 25, 26, 27, 28, 29, 30, 31, 32, 33, 34, 35, 36, 37, 38, 39, 40, 41, 42, 58, 59, 43, 44, 45, 46, 47, 48, 49, 50, 51] (by decide +kernel) (by decide +kernel)
set_option maxRecDepth 20000 in
theorem gX3_init_X1_init : GoodIn wsX3_init (wsX1_init) := ggX3_init_X1_init
theorem dX3_init_0 : decode cX3_init 0 = .ok (.aload_n 0, 1) := by decide +kernel
theorem dX3_init_1 : decode cX3_init 1 = .ok (.invokespecial 3, 3) := by decide +kernel
theorem dX3_init_4 : decode cX3_init 4 = .ok (.aload_n 0, 1) := by decide +kernel
theorem dX3_init_5 : decode cX3_init 5 = .ok (.new 9, 3) := by decide +kernel
theorem dX3_init_8 : decode cX3_init 8 = .ok (.dup, 1) := by decide +kernel
theorem dX3_init_9 : decode cX3_init 9 = .ok (.invokespecial 11, 3) := by decide +kernel
theorem dX3_init_12 : decode cX3_init 12 = .ok (.putfield 12, 3) := by decide +kernel
theorem dX3_init_15 : decode cX3_init 15 = .ok (.aload_n 0, 1) := by decide +kernel
theorem dX3_init_16 : decode cX3_init 16 = .ok (.new 9, 3) := by decide +kernel
theorem dX3_init_19 : decode cX3_init 19 = .ok (.dup, 1) := by decide +kernel
theorem dX3_init_20 : decode cX3_init 20 = .ok (.invokespecial 11, 3) := by decide +kernel
theorem dX3_init_23 : decode cX3_init 23 = .ok (.putfield 16, 3) := by decide +kernel
theorem dX3_init_26 : decode cX3_init 26 = .ok (.aload_n 0, 1) := by decide +kernel
theorem dX3_init_27 : decode cX3_init 27 = .ok (.bipush 6, 2) := by decide +kernel
theorem dX3_init_29 : decode cX3_init 29 = .ok (.anewarray 9, 3) := by decide +kernel
theorem dX3_init_32 : decode cX3_init 32 = .ok (.putfield 19, 3) := by decide +kernel
theorem dX3_init_35 : decode cX3_init 35 = .ok (.iconst 0, 1) := by decide +kernel
theorem dX3_init_36 : decode cX3_init 36 = .ok (.istore_n 1, 1) := by decide +kernel
theorem dX3_init_37 : decode cX3_init 37 = .ok (.iload_n 1, 1) := by decide +kernel
theorem dX3_init_38 : decode cX3_init 38 = .ok (.aload_n 0, 1) := by decide +kernel
theorem dX3_init_39 : decode cX3_init 39 = .ok (.getfield 19, 3) := by decide +kernel
theorem dX3_init_42 : decode cX3_init 42 = .ok (.arraylength, 1) := by decide +kernel
theorem dX3_init_43 : decode cX3_init 43 = .ok (.if_icmp .ge 22, 3) := by decide +kernel
theorem dX3_init_46 : decode cX3_init 46 = .ok (.aload_n 0, 1) := by decide +kernel
theorem dX3_init_47 : decode cX3_init 47 = .ok (.getfield 19, 3) := by decide +kernel
theorem dX3_init_50 : decode cX3_init 50 = .ok (.iload_n 1, 1) := by decide +kernel
theorem dX3_init_51 : decode cX3_init 51 = .ok (.new 9, 3) := by decide +kernel
theorem dX3_init_54 : decode cX3_init 54 = .ok (.dup, 1) := by decide +kernel
theorem dX3_init_55 : decode cX3_init 55 = .ok (.invokespecial 11, 3) := by decide +kernel
theorem dX3_init_58 : decode cX3_init 58 = .ok (.aastore, 1) := by decide +kernel
theorem dX3_init_59 : decode cX3_init 59 = .ok (.iinc 1 1, 3) := by decide +kernel
theorem dX3_init_62 : decode cX3_init 62 = .ok (.goto (-25), 3) := by decide +kernel
theorem dX3_init_65 : decode cX3_init 65 = .ok (.aload_n 0, 1) := by decide +kernel
theorem dX3_init_66 : decode cX3_init 66 = .ok (.iconst 0, 1) := by decide +kernel
theorem dX3_init_67 : decode cX3_init 67 = .ok (.putfield 23, 3) := by decide +kernel
theorem dX3_init_70 : decode cX3_init 70 = .ok (.aload_n 0, 1) := by decide +kernel
theorem dX3_init_71 : decode cX3_init 71 = .ok (.lconst 0, 1) := by decide +kernel
theorem dX3_init_72 : decode cX3_init 72 = .ok (.putfield 27, 3) := by decide +kernel
theorem dX3_init_75 : decode cX3_init 75 = .ok (.aload_n 0, 1) := by decide +kernel
theorem dX3_init_76 : decode cX3_init 76 = .ok (.iconst 0, 1) := by decide +kernel
theorem dX3_init_77 : decode cX3_init 77 = .ok (.putfield 31, 3) := by decide +kernel
theorem dX3_init_80 : decode cX3_init 80 = .ok (.return_, 1) := by decide +kernel
set_option maxRecDepth 20000 in
theorem ggX3_append_X2_withLetter : GoodIn wsX3_append wsX2_withLetter := goodIn_r _ [10] (by decide +kernel) (by decide +kernel)
set_option maxRecDepth 20000 in
theorem gX3_append_X2_withLetter : GoodIn wsX3_append (va_wsS RX3 46 yX2_withLetter wsX2_withLetter) := goodIn_app (goodIn_of _ (by decide +kernel)) ggX3_append_X2_withLetter
theorem dX3_append_0 : decode cX3_append 0 = .ok (.iload_n 1, 1) := by decide +kernel
theorem dX3_append_1 : decode cX3_append 1 = .ok (.iconst 1, 1) := by decide +kernel
theorem dX3_append_2 : decode cX3_append 2 = .ok (.if_icmp .lt 9, 3) := by decide +kernel
theorem dX3_append_5 : decode cX3_append 5 = .ok (.iload_n 1, 1) := by decide +kernel
theorem dX3_append_6 : decode cX3_append 6 = .ok (.bipush 8, 2) := by decide +kernel
theorem dX3_append_8 : decode cX3_append 8 = .ok (.if_icmp .le 13, 3) := by decide +kernel
theorem dX3_append_11 : decode cX3_append 11 = .ok (.new 34, 3) := by decide +kernel
theorem dX3_append_14 : decode cX3_append 14 = .ok (.dup, 1) := by decide +kernel
theorem dX3_append_15 : decode cX3_append 15 = .ok (.ldc 36, 2) := by decide +kernel
theorem dX3_append_17 : decode cX3_append 17 = .ok (.invokespecial 38, 3) := by decide +kernel
theorem dX3_append_20 : decode cX3_append 20 = .ok (.athrow, 1) := by decide +kernel
theorem dX3_append_21 : decode cX3_append 21 = .ok (.aload_n 0, 1) := by decide +kernel
theorem dX3_append_22 : decode cX3_append 22 = .ok (.getfield 31, 3) := by decide +kernel
theorem dX3_append_25 : decode cX3_append 25 = .ok (.bipush 12, 2) := by decide +kernel
theorem dX3_append_27 : decode cX3_append 27 = .ok (.if_icmp .lt 13, 3) := by decide +kernel
theorem dX3_append_30 : decode cX3_append 30 = .ok (.new 41, 3) := by decide +kernel
theorem dX3_append_33 : decode cX3_append 33 = .ok (.dup, 1) := by decide +kernel
theorem dX3_append_34 : decode cX3_append 34 = .ok (.ldc 43, 2) := by decide +kernel
theorem dX3_append_36 : decode cX3_append 36 = .ok (.invokespecial 45, 3) := by decide +kernel
theorem dX3_append_39 : decode cX3_append 39 = .ok (.athrow, 1) := by decide +kernel
theorem dX3_append_40 : decode cX3_append 40 = .ok (.aload_n 0, 1) := by decide +kernel
theorem dX3_append_41 : decode cX3_append 41 = .ok (.aload_n 0, 1) := by decide +kernel
theorem dX3_append_42 : decode cX3_append 42 = .ok (.getfield 27, 3) := by decide +kernel
theorem dX3_append_45 : decode cX3_append 45 = .ok (.aload_n 0, 1) := by decide +kernel
theorem dX3_append_46 : decode cX3_append 46 = .ok (.getfield 31, 3) := by decide +kernel
theorem dX3_append_49 : decode cX3_append 49 = .ok (.iload_n 1, 1) := by decide +kernel
theorem dX3_append_50 : decode cX3_append 50 = .ok (.invokestatic 46, 3) := by decide +kernel
theorem dX3_append_53 : decode cX3_append 53 = .ok (.putfield 27, 3) := by decide +kernel
theorem dX3_append_56 : decode cX3_append 56 = .ok (.aload_n 0, 1) := by decide +kernel
theorem dX3_append_57 : decode cX3_append 57 = .ok (.dup, 1) := by decide +kernel
theorem dX3_append_58 : decode cX3_append 58 = .ok (.getfield 31, 3) := by decide +kernel
theorem dX3_append_61 : decode cX3_append 61 = .ok (.iconst 1, 1) := by decide +kernel
theorem dX3_append_62 : decode cX3_append 62 = .ok (.iadd, 1) := by decide +kernel
theorem dX3_append_63 : decode cX3_append 63 = .ok (.putfield 31, 3) := by decide +kernel
theorem dX3_append_66 : decode cX3_append 66 = .ok (.aload_n 0, 1) := by decide +kernel
theorem dX3_append_67 : decode cX3_append 67 = .ok (.getfield 31, 3) := by decide +kernel
theorem dX3_append_70 : decode cX3_append 70 = .ok (.ireturn, 1) := by decide +kernel
theorem dX3_clearBuffer_0 : decode cX3_clearBuffer 0 = .ok (.aload_n 0, 1) := by decide +kernel
theorem dX3_clearBuffer_1 : decode cX3_clearBuffer 1 = .ok (.getfield 31, 3) := by decide +kernel
theorem dX3_clearBuffer_4 : decode cX3_clearBuffer 4 = .ok (.istore_n 1, 1) := by decide +kernel
theorem dX3_clearBuffer_5 : decode cX3_clearBuffer 5 = .ok (.aload_n 0, 1) := by decide +kernel
theorem dX3_clearBuffer_6 : decode cX3_clearBuffer 6 = .ok (.lconst 0, 1) := by decide +kernel
theorem dX3_clearBuffer_7 : decode cX3_clearBuffer 7 = .ok (.putfield 27, 3) := by decide +kernel
theorem dX3_clearBuffer_10 : decode cX3_clearBuffer 10 = .ok (.aload_n 0, 1) := by decide +kernel
theorem dX3_clearBuffer_11 : decode cX3_clearBuffer 11 = .ok (.iconst 0, 1) := by decide +kernel
theorem dX3_clearBuffer_12 : decode cX3_clearBuffer 12 = .ok (.putfield 31, 3) := by decide +kernel
theorem dX3_clearBuffer_15 : decode cX3_clearBuffer 15 = .ok (.iload_n 1, 1) := by decide +kernel
theorem dX3_clearBuffer_16 : decode cX3_clearBuffer 16 = .ok (.ireturn, 1) := by decide +kernel
set_option maxRecDepth 20000 in
theorem ggX3_drop_X2_letterAt : GoodIn wsX3_drop wsX2_letterAt := goodIn_r _ [8, 9, 10, 7, 11, 12] (by decide +kernel) (by decide +kernel)
set_option maxRecDepth 20000 in
theorem gX3_drop_X2_letterAt : GoodIn wsX3_drop (va_wsS RX3 54 yX2_letterAt wsX2_letterAt) := goodIn_app (goodIn_of _ (by decide +kernel)) ggX3_drop_X2_letterAt
set_option maxRecDepth 20000 in
theorem ggX3_drop_X2_startOf : GoodIn wsX3_drop wsX2_startOf := goodIn_r _ [15] (by decide +kernel) (by decide +kernel)
set_option maxRecDepth 20000 in
theorem gX3_drop_X2_startOf : GoodIn wsX3_drop (va_wsS RX3 58 yX2_startOf wsX2_startOf) := goodIn_app (goodIn_of _ (by decide +kernel)) ggX3_drop_X2_startOf
theorem dX3_drop_0 : decode cX3_drop 0 = .ok (.aload_n 0, 1) := by decide +kernel
theorem dX3_drop_1 : decode cX3_drop 1 = .ok (.getfield 31, 3) := by decide +kernel
theorem dX3_drop_4 : decode cX3_drop 4 = .ok (.ifCond .gt 13, 3) := by decide +kernel
theorem dX3_drop_7 : decode cX3_drop 7 = .ok (.new 41, 3) := by decide +kernel
theorem dX3_drop_10 : decode cX3_drop 10 = .ok (.dup, 1) := by decide +kernel
theorem dX3_drop_11 : decode cX3_drop 11 = .ok (.ldc 52, 2) := by decide +kernel
theorem dX3_drop_13 : decode cX3_drop 13 = .ok (.invokespecial 45, 3) := by decide +kernel
theorem dX3_drop_16 : decode cX3_drop 16 = .ok (.athrow, 1) := by decide +kernel
theorem dX3_drop_17 : decode cX3_drop 17 = .ok (.aload_n 0, 1) := by decide +kernel
theorem dX3_drop_18 : decode cX3_drop 18 = .ok (.dup, 1) := by decide +kernel
theorem dX3_drop_19 : decode cX3_drop 19 = .ok (.getfield 31, 3) := by decide +kernel
theorem dX3_drop_22 : decode cX3_drop 22 = .ok (.iconst 1, 1) := by decide +kernel
theorem dX3_drop_23 : decode cX3_drop 23 = .ok (.isub, 1) := by decide +kernel
theorem dX3_drop_24 : decode cX3_drop 24 = .ok (.putfield 31, 3) := by decide +kernel
theorem dX3_drop_27 : decode cX3_drop 27 = .ok (.aload_n 0, 1) := by decide +kernel
theorem dX3_drop_28 : decode cX3_drop 28 = .ok (.getfield 27, 3) := by decide +kernel
theorem dX3_drop_31 : decode cX3_drop 31 = .ok (.aload_n 0, 1) := by decide +kernel
theorem dX3_drop_32 : decode cX3_drop 32 = .ok (.getfield 31, 3) := by decide +kernel
theorem dX3_drop_35 : decode cX3_drop 35 = .ok (.invokestatic 54, 3) := by decide +kernel
theorem dX3_drop_38 : decode cX3_drop 38 = .ok (.istore_n 1, 1) := by decide +kernel
theorem dX3_drop_39 : decode cX3_drop 39 = .ok (.aload_n 0, 1) := by decide +kernel
theorem dX3_drop_40 : decode cX3_drop 40 = .ok (.aload_n 0, 1) := by decide +kernel
theorem dX3_drop_41 : decode cX3_drop 41 = .ok (.getfield 27, 3) := by decide +kernel
theorem dX3_drop_44 : decode cX3_drop 44 = .ok (.aload_n 0, 1) := by decide +kernel
theorem dX3_drop_45 : decode cX3_drop 45 = .ok (.getfield 31, 3) := by decide +kernel
theorem dX3_drop_48 : decode cX3_drop 48 = .ok (.invokestatic 58, 3) := by decide +kernel
theorem dX3_drop_51 : decode cX3_drop 51 = .ok (.putfield 27, 3) := by decide +kernel
theorem dX3_drop_54 : decode cX3_drop 54 = .ok (.iload_n 1, 1) := by decide +kernel
theorem dX3_drop_55 : decode cX3_drop 55 = .ok (.ireturn, 1) := by decide +kernel
set_option maxRecDepth 20000 in
theorem ggX3_add_X3_tryToAdd : GoodIn wsX3_add wsX3_tryToAdd := goodIn_r _ [12, 13, 5, 7, 6, 14, 15, 16, 17, 18, 19, 20, 11, 21, 22, 23, 24, 25, 26, 27, 28, 29, 30, 31, 32, 33, 34, 35, 36, 37, 38, 39, 40, 41, 42, 43, 44, 45, 46, 47, 48, 49, 50, 51, 52, 53, 54, 55, 56, 57, 58, 59, 60, 61, 62, 63, 64, 65, 66, 67, 68, 69, 70, 71, 72, 73, 74, 75, 76, 77, 78, 79, 80, 81, 82, 83, 84, 85, 86, 87, 88, 89, 90, 91, 92, 93, 94, 95, 96, 97, 98, 99, 100, 101, 102, 103, 104, 105, 106, 107, 108, 109, 110, 111, 112, 113, 114, 115, 116, 117, 118, 119, 120, 121, 122, 123, 124, 125, 126, 127, 128, 129, 130, 131, 132, 133, 134, 135, 136, 137, 138, 139, 140, 141, 142, 143, 144, 145, 146, 147, 148, 149, 160, 161, 162, 163, 164, 165, 166, 167, 168, 169, 170, 171, 172, 173, 174, 175, 176] (by decide +kernel) (by decide +kernel)
set_option maxRecDepth 20000 in
theorem gX3_add_X3_tryToAdd : GoodIn wsX3_add (wsV RX3 62 RX3 yX3_tryToAdd wsX3_tryToAdd) := goodIn_app (goodIn_of _ (by decide +kernel)) ggX3_add_X3_tryToAdd
set_option maxRecDepth 20000 in
theorem ggX3_add_X3_saveState : GoodIn wsX3_add wsX3_saveState := goodIn_r _ [153, 154, 155, 5, 156, 157, 158, 11, 159, 48, 49, 50, 17, 51, 19, 52, 53, 44, 27, 43, 54, 26, 55, 56, 57, 58, 59, 60, 61, 62, 63, 64, 65, 66, 67, 68, 31, 69, 70, 33, 71, 72, 160, 161, 162, 163, 164, 165, 166, 167, 168, 169, 170, 171, 172, 173, 174, 175, 176] (by decide +kernel) (by decide +kernel)
set_option maxRecDepth 20000 in
theorem gX3_add_X3_saveState : GoodIn wsX3_add (wsV RX3 70 RX3 yX3_saveState wsX3_saveState) := goodIn_app (goodIn_of _ (by decide +kernel)) ggX3_add_X3_saveState
set_option maxRecDepth 20000 in
theorem ggX3_add_X1_copyFrom : GoodIn wsX3_add wsX1_copyFrom := goodIn_r _ [51, 19, 52, 53, 44, 27, 43, 54, 26, 55, 56, 11, 57, 58, 59, 60, 61, 62, 63, 64, 65, 66, 67, 68, 31, 69, 70, 33, 71, 72, 166, 167, 168, 169, 170, 171, 172, 173, 174, 175, 176] (by decide +kernel) (by decide +kernel)
set_option maxRecDepth 20000 in
theorem gX3_add_X1_copyFrom : GoodIn wsX3_add (wsV RX3 73 RX1 yX1_copyFrom wsX1_copyFrom) := goodIn_app (goodIn_of _ (by decide +kernel)) ggX3_add_X1_copyFrom
set_option maxRecDepth 20000 in
theorem ggX3_add_X1_leafOf : GoodIn wsX3_add wsX1_leafOf := goodIn_r _ [18, 19, 20, 11, 21, 22, 23, 24, 17, 25, 26, 27, 28, 29, 30, 31, 32, 33, 34, 35, 36, 37, 38, 39, 40, 41, 42, 43, 44, 45, 46, 47, 166, 167, 168, 169, 170, 171, 172, 173, 174, 175, 176] (by decide +kernel) (by decide +kernel)
set_option maxRecDepth 20000 in
theorem gX3_add_X1_leafOf : GoodIn wsX3_add (wsV RX3 77 RX1 yX1_leafOf wsX1_leafOf) := goodIn_app (goodIn_of _ (by decide +kernel)) ggX3_add_X1_leafOf
theorem dX3_add_0 : decode cX3_add 0 = .ok (.aload_n 0, 1) := by decide +kernel
theorem dX3_add_1 : decode cX3_add 1 = .ok (.invokevirtual 62, 3) := by decide +kernel
theorem dX3_add_4 : decode cX3_add 4 = .ok (.istore_n 1, 1) := by decide +kernel
theorem dX3_add_5 : decode cX3_add 5 = .ok (.iload_n 1, 1) := by decide +kernel
theorem dX3_add_6 : decode cX3_add 6 = .ok (.iconst 3, 1) := by decide +kernel
theorem dX3_add_7 : decode cX3_add 7 = .ok (.if_icmp .ne 13, 3) := by decide +kernel
theorem dX3_add_10 : decode cX3_add 10 = .ok (.new 34, 3) := by decide +kernel
theorem dX3_add_13 : decode cX3_add 13 = .ok (.dup, 1) := by decide +kernel
theorem dX3_add_14 : decode cX3_add 14 = .ok (.ldc 52, 2) := by decide +kernel
theorem dX3_add_16 : decode cX3_add 16 = .ok (.invokespecial 38, 3) := by decide +kernel
theorem dX3_add_19 : decode cX3_add 19 = .ok (.athrow, 1) := by decide +kernel
theorem dX3_add_20 : decode cX3_add 20 = .ok (.iload_n 1, 1) := by decide +kernel
theorem dX3_add_21 : decode cX3_add 21 = .ok (.iconst 1, 1) := by decide +kernel
theorem dX3_add_22 : decode cX3_add 22 = .ok (.if_icmp .ne 13, 3) := by decide +kernel
theorem dX3_add_25 : decode cX3_add 25 = .ok (.new 41, 3) := by decide +kernel
theorem dX3_add_28 : decode cX3_add 28 = .ok (.dup, 1) := by decide +kernel
theorem dX3_add_29 : decode cX3_add 29 = .ok (.ldc 66, 2) := by decide +kernel
theorem dX3_add_31 : decode cX3_add 31 = .ok (.invokespecial 45, 3) := by decide +kernel
theorem dX3_add_34 : decode cX3_add 34 = .ok (.athrow, 1) := by decide +kernel
theorem dX3_add_35 : decode cX3_add 35 = .ok (.iload_n 1, 1) := by decide +kernel
theorem dX3_add_36 : decode cX3_add 36 = .ok (.iconst 2, 1) := by decide +kernel
theorem dX3_add_37 : decode cX3_add 37 = .ok (.if_icmp .ne 13, 3) := by decide +kernel
theorem dX3_add_40 : decode cX3_add 40 = .ok (.new 41, 3) := by decide +kernel
theorem dX3_add_43 : decode cX3_add 43 = .ok (.dup, 1) := by decide +kernel
theorem dX3_add_44 : decode cX3_add 44 = .ok (.ldc 68, 2) := by decide +kernel
theorem dX3_add_46 : decode cX3_add 46 = .ok (.invokespecial 45, 3) := by decide +kernel
theorem dX3_add_49 : decode cX3_add 49 = .ok (.athrow, 1) := by decide +kernel
theorem dX3_add_50 : decode cX3_add 50 = .ok (.aload_n 0, 1) := by decide +kernel
theorem dX3_add_51 : decode cX3_add 51 = .ok (.invokevirtual 70, 3) := by decide +kernel
theorem dX3_add_54 : decode cX3_add 54 = .ok (.aload_n 0, 1) := by decide +kernel
theorem dX3_add_55 : decode cX3_add 55 = .ok (.getfield 12, 3) := by decide +kernel
theorem dX3_add_58 : decode cX3_add 58 = .ok (.aload_n 0, 1) := by decide +kernel
theorem dX3_add_59 : decode cX3_add 59 = .ok (.getfield 16, 3) := by decide +kernel
theorem dX3_add_62 : decode cX3_add 62 = .ok (.invokevirtual 73, 3) := by decide +kernel
theorem dX3_add_65 : decode cX3_add 65 = .ok (.aload_n 0, 1) := by decide +kernel
theorem dX3_add_66 : decode cX3_add 66 = .ok (.getfield 12, 3) := by decide +kernel
theorem dX3_add_69 : decode cX3_add 69 = .ok (.aload_n 0, 1) := by decide +kernel
theorem dX3_add_70 : decode cX3_add 70 = .ok (.getfield 27, 3) := by decide +kernel
theorem dX3_add_73 : decode cX3_add 73 = .ok (.invokevirtual 77, 3) := by decide +kernel
theorem dX3_add_76 : decode cX3_add 76 = .ok (.ireturn, 1) := by decide +kernel
set_option maxRecDepth 20000 in
theorem ggX3_remove_X1_leafOf : GoodIn wsX3_remove wsX1_leafOf := goodIn_r _ [12, 13, 14, 15, 16, 17, 18, 19, 11, 20, 21, 22, 23, 24, 25, 26, 27, 28, 29, 30, 31, 32, 33, 34, 35, 36, 37, 38, 39, 40, 41, 42, 106, 107, 108, 109, 110, 111, 112, 113, 114, 115, 116] (by decide +kernel) (by decide +kernel)
set_option maxRecDepth 20000 in
theorem gX3_remove_X1_leafOf : GoodIn wsX3_remove (wsV RX3 77 RX1 yX1_leafOf wsX1_leafOf) := goodIn_app (goodIn_of _ (by decide +kernel)) ggX3_remove_X1_leafOf
set_option maxRecDepth 20000 in
theorem ggX3_remove_X3_saveState : GoodIn wsX3_remove wsX3_saveState := goodIn_r _ [46, 47, 48, 6, 49, 50, 51, 15, 52, 53, 54, 55, 11, 56, 13, 57, 58, 39, 22, 38, 59, 21, 60, 61, 62, 63, 64, 65, 66, 67, 68, 69, 70, 71, 72, 73, 26, 74, 75, 28, 76, 77, 100, 101, 102, 103, 104, 105, 106, 107, 108, 109, 110, 111, 112, 113, 114, 115, 116] (by decide +kernel) (by decide +kernel)
set_option maxRecDepth 20000 in
theorem gX3_remove_X3_saveState : GoodIn wsX3_remove (wsV RX3 70 RX3 yX3_saveState wsX3_saveState) := goodIn_app (goodIn_of _ (by decide +kernel)) ggX3_remove_X3_saveState
set_option maxRecDepth 20000 in
theorem ggX3_remove_X1_freeLeaf : GoodIn wsX3_remove wsX1_freeLeaf := goodIn_r _ [81, 21, 22, 57, 38, 58, 14, 15, 16, 82, 83, 84, 26, 85, 75, 28, 86, 87, 88, 89, 90, 11, 91, 59, 92, 93, 94, 95, 39, 96, 97, 98, 99, 13, 106, 107, 108, 109, 110, 111, 112, 113, 114, 115, 116] (by decide +kernel) (by decide +kernel)
set_option maxRecDepth 20000 in
theorem gX3_remove_X1_freeLeaf : GoodIn wsX3_remove (wsV RX3 83 RX1 yX1_freeLeaf wsX1_freeLeaf) := goodIn_app (goodIn_of _ (by decide +kernel)) ggX3_remove_X1_freeLeaf
theorem dX3_remove_0 : decode cX3_remove 0 = .ok (.aload_n 0, 1) := by decide +kernel
theorem dX3_remove_1 : decode cX3_remove 1 = .ok (.getfield 31, 3) := by decide +kernel
theorem dX3_remove_4 : decode cX3_remove 4 = .ok (.ifCond .ne 13, 3) := by decide +kernel
theorem dX3_remove_7 : decode cX3_remove 7 = .ok (.new 34, 3) := by decide +kernel
theorem dX3_remove_10 : decode cX3_remove 10 = .ok (.dup, 1) := by decide +kernel
theorem dX3_remove_11 : decode cX3_remove 11 = .ok (.ldc 52, 2) := by decide +kernel
theorem dX3_remove_13 : decode cX3_remove 13 = .ok (.invokespecial 38, 3) := by decide +kernel
theorem dX3_remove_16 : decode cX3_remove 16 = .ok (.athrow, 1) := by decide +kernel
theorem dX3_remove_17 : decode cX3_remove 17 = .ok (.aload_n 0, 1) := by decide +kernel
theorem dX3_remove_18 : decode cX3_remove 18 = .ok (.getfield 12, 3) := by decide +kernel
theorem dX3_remove_21 : decode cX3_remove 21 = .ok (.aload_n 0, 1) := by decide +kernel
theorem dX3_remove_22 : decode cX3_remove 22 = .ok (.getfield 27, 3) := by decide +kernel
theorem dX3_remove_25 : decode cX3_remove 25 = .ok (.invokevirtual 77, 3) := by decide +kernel
theorem dX3_remove_28 : decode cX3_remove 28 = .ok (.istore_n 1, 1) := by decide +kernel
theorem dX3_remove_29 : decode cX3_remove 29 = .ok (.iload_n 1, 1) := by decide +kernel
theorem dX3_remove_30 : decode cX3_remove 30 = .ok (.iconst (-1), 1) := by decide +kernel
theorem dX3_remove_31 : decode cX3_remove 31 = .ok (.if_icmp .ne 13, 3) := by decide +kernel
theorem dX3_remove_34 : decode cX3_remove 34 = .ok (.new 41, 3) := by decide +kernel
theorem dX3_remove_37 : decode cX3_remove 37 = .ok (.dup, 1) := by decide +kernel
theorem dX3_remove_38 : decode cX3_remove 38 = .ok (.ldc 81, 2) := by decide +kernel
theorem dX3_remove_40 : decode cX3_remove 40 = .ok (.invokespecial 45, 3) := by decide +kernel
theorem dX3_remove_43 : decode cX3_remove 43 = .ok (.athrow, 1) := by decide +kernel
theorem dX3_remove_44 : decode cX3_remove 44 = .ok (.aload_n 0, 1) := by decide +kernel
theorem dX3_remove_45 : decode cX3_remove 45 = .ok (.invokevirtual 70, 3) := by decide +kernel
theorem dX3_remove_48 : decode cX3_remove 48 = .ok (.aload_n 0, 1) := by decide +kernel
theorem dX3_remove_49 : decode cX3_remove 49 = .ok (.getfield 12, 3) := by decide +kernel
theorem dX3_remove_52 : decode cX3_remove 52 = .ok (.iload_n 1, 1) := by decide +kernel
theorem dX3_remove_53 : decode cX3_remove 53 = .ok (.invokevirtual 83, 3) := by decide +kernel
theorem dX3_remove_56 : decode cX3_remove 56 = .ok (.ireturn, 1) := by decide +kernel
set_option maxRecDepth 20000 in
theorem ggX3_removeAll_X3_saveState : GoodIn wsX3_removeAll wsX3_saveState := goodIn_r _ [7, 8, 9, 1, 10, 11, 12, 6, 13, 14, 15, 16, 17, 18, 19, 20, 21, 22, 23, 24, 25, 26, 27, 28, 29, 30, 31, 32, 33, 34, 35, 36, 37, 38, 39, 40, 41, 42, 43, 44, 45, 46, 138, 139, 140, 141, 142, 143, 144, 145, 146, 147, 148, 149, 150, 151, 152, 153, 154] (by decide +kernel) (by decide +kernel)
set_option maxRecDepth 20000 in
theorem gX3_removeAll_X3_saveState : GoodIn wsX3_removeAll (wsV RX3 70 RX3 yX3_saveState wsX3_saveState) := goodIn_app (goodIn_of _ (by decide +kernel)) ggX3_removeAll_X3_saveState
set_option maxRecDepth 20000 in
theorem ggX3_removeAll_X1_wordsWith : GoodIn wsX3_removeAll wsX1_wordsWith := goodIn_r _ [50, 19, 25, 51, 6, 52, 53, 54, 55, 17, 56, 26, 23, 57, 58, 59, 41, 60, 44, 61, 62, 63, 64, 65, 66, 67, 68, 69, 70, 71, 72, 73, 74, 75, 76, 77, 78, 79, 80, 81, 82, 24, 22, 83, 84, 85, 144, 145, 146, 147, 148, 149, 150, 151, 152, 153, 154] (by decide +kernel) (by decide +kernel)
set_option maxRecDepth 20000 in
theorem gX3_removeAll_X1_wordsWith : GoodIn wsX3_removeAll (wsV RX3 87 RX1 yX1_wordsWith wsX1_wordsWith) := goodIn_app (goodIn_of _ (by decide +kernel)) ggX3_removeAll_X1_wordsWith
set_option maxRecDepth 20000 in
theorem ggX3_removeAll_X1_wordsAhead : GoodIn wsX3_removeAll wsX1_wordsAhead := goodIn_r _ [89, 19, 51, 6, 52, 53, 54, 55, 17, 56, 26, 23, 57, 58, 59, 41, 60, 44, 90, 91, 63, 92, 68, 69, 70, 71, 72, 73, 74, 78, 93, 94, 95, 96, 25, 79, 80, 81, 82, 24, 22, 83, 84, 85, 144, 145, 146, 147, 148, 149, 150, 151, 152, 153, 154] (by decide +kernel) (by decide +kernel)
set_option maxRecDepth 20000 in
theorem gX3_removeAll_X1_wordsAhead : GoodIn wsX3_removeAll (wsV RX3 90 RX1 yX1_wordsAhead wsX1_wordsAhead) := goodIn_app (goodIn_of _ (by decide +kernel)) ggX3_removeAll_X1_wordsAhead
set_option maxRecDepth 20000 in
theorem ggX3_removeAll_X1_wordAt : GoodIn wsX3_removeAll wsX1_wordAt := goodIn_r _ [100, 19, 101, 102, 103, 17, 104, 25, 51, 6, 52, 53, 54, 55, 56, 26, 23, 57, 58, 59, 41, 60, 44, 105, 106, 107, 108, 79, 80, 81, 82, 24, 22, 93, 94, 95, 96, 109, 110, 63, 111, 144, 145, 146, 147, 148, 149, 150, 151, 152, 153, 154] (by decide +kernel) (by decide +kernel)
set_option maxRecDepth 20000 in
theorem gX3_removeAll_X1_wordAt : GoodIn wsX3_removeAll (wsV RX3 93 RX1 yX1_wordAt wsX1_wordAt) := goodIn_app (goodIn_of _ (by decide +kernel)) ggX3_removeAll_X1_wordAt
set_option maxRecDepth 20000 in
theorem ggX3_removeAll_X1_leafOf : GoodIn wsX3_removeAll wsX1_leafOf := goodIn_r _ [115, 19, 51, 6, 52, 53, 54, 55, 17, 56, 26, 23, 57, 58, 59, 41, 60, 44, 78, 72, 63, 73, 74, 79, 80, 81, 82, 24, 22, 83, 84, 85, 144, 145, 146, 147, 148, 149, 150, 151, 152, 153, 154] (by decide +kernel) (by decide +kernel)
set_option maxRecDepth 20000 in
theorem gX3_removeAll_X1_leafOf : GoodIn wsX3_removeAll (wsV RX3 77 RX1 yX1_leafOf wsX1_leafOf) := goodIn_app (goodIn_of _ (by decide +kernel)) ggX3_removeAll_X1_leafOf
set_option maxRecDepth 20000 in
theorem ggX3_removeAll_X1_freeLeaf : GoodIn wsX3_removeAll wsX1_freeLeaf := goodIn_r _ [119, 26, 23, 20, 24, 21, 51, 6, 52, 120, 121, 122, 41, 123, 43, 44, 124, 125, 126, 127, 128, 17, 129, 25, 130, 131, 132, 133, 22, 134, 135, 136, 137, 19, 144, 145, 146, 147, 148, 149, 150, 151, 152, 153, 154] (by decide +kernel) (by decide +kernel)
set_option maxRecDepth 20000 in
theorem gX3_removeAll_X1_freeLeaf : GoodIn wsX3_removeAll (wsV RX3 83 RX1 yX1_freeLeaf wsX1_freeLeaf) := goodIn_app (goodIn_of _ (by decide +kernel)) ggX3_removeAll_X1_freeLeaf
theorem dX3_removeAll_0 : decode cX3_removeAll 0 = .ok (.aload_n 0, 1) := by decide +kernel
theorem dX3_removeAll_1 : decode cX3_removeAll 1 = .ok (.invokevirtual 70, 3) := by decide +kernel
theorem dX3_removeAll_4 : decode cX3_removeAll 4 = .ok (.aload_n 0, 1) := by decide +kernel
theorem dX3_removeAll_5 : decode cX3_removeAll 5 = .ok (.getfield 12, 3) := by decide +kernel
theorem dX3_removeAll_8 : decode cX3_removeAll 8 = .ok (.aload_n 0, 1) := by decide +kernel
theorem dX3_removeAll_9 : decode cX3_removeAll 9 = .ok (.getfield 27, 3) := by decide +kernel
theorem dX3_removeAll_12 : decode cX3_removeAll 12 = .ok (.invokevirtual 87, 3) := by decide +kernel
theorem dX3_removeAll_15 : decode cX3_removeAll 15 = .ok (.istore_n 1, 1) := by decide +kernel
theorem dX3_removeAll_16 : decode cX3_removeAll 16 = .ok (.aload_n 0, 1) := by decide +kernel
theorem dX3_removeAll_17 : decode cX3_removeAll 17 = .ok (.getfield 12, 3) := by decide +kernel
theorem dX3_removeAll_20 : decode cX3_removeAll 20 = .ok (.aload_n 0, 1) := by decide +kernel
theorem dX3_removeAll_21 : decode cX3_removeAll 21 = .ok (.getfield 27, 3) := by decide +kernel
theorem dX3_removeAll_24 : decode cX3_removeAll 24 = .ok (.invokevirtual 90, 3) := by decide +kernel
theorem dX3_removeAll_27 : decode cX3_removeAll 27 = .ok (.istore_n 2, 1) := by decide +kernel
theorem dX3_removeAll_28 : decode cX3_removeAll 28 = .ok (.iconst 0, 1) := by decide +kernel
theorem dX3_removeAll_29 : decode cX3_removeAll 29 = .ok (.istore_n 3, 1) := by decide +kernel
theorem dX3_removeAll_30 : decode cX3_removeAll 30 = .ok (.iload_n 3, 1) := by decide +kernel
theorem dX3_removeAll_31 : decode cX3_removeAll 31 = .ok (.iload_n 1, 1) := by decide +kernel
theorem dX3_removeAll_32 : decode cX3_removeAll 32 = .ok (.if_icmp .ge 32, 3) := by decide +kernel
theorem dX3_removeAll_35 : decode cX3_removeAll 35 = .ok (.aload_n 0, 1) := by decide +kernel
theorem dX3_removeAll_36 : decode cX3_removeAll 36 = .ok (.getfield 12, 3) := by decide +kernel
theorem dX3_removeAll_39 : decode cX3_removeAll 39 = .ok (.aload_n 0, 1) := by decide +kernel
theorem dX3_removeAll_40 : decode cX3_removeAll 40 = .ok (.getfield 12, 3) := by decide +kernel
theorem dX3_removeAll_43 : decode cX3_removeAll 43 = .ok (.aload_n 0, 1) := by decide +kernel
theorem dX3_removeAll_44 : decode cX3_removeAll 44 = .ok (.getfield 12, 3) := by decide +kernel
theorem dX3_removeAll_47 : decode cX3_removeAll 47 = .ok (.iload_n 2, 1) := by decide +kernel
theorem dX3_removeAll_48 : decode cX3_removeAll 48 = .ok (.invokevirtual 93, 3) := by decide +kernel
theorem dX3_removeAll_51 : decode cX3_removeAll 51 = .ok (.invokevirtual 77, 3) := by decide +kernel
theorem dX3_removeAll_54 : decode cX3_removeAll 54 = .ok (.invokevirtual 83, 3) := by decide +kernel
theorem dX3_removeAll_57 : decode cX3_removeAll 57 = .ok (.pop, 1) := by decide +kernel
theorem dX3_removeAll_58 : decode cX3_removeAll 58 = .ok (.iinc 3 1, 3) := by decide +kernel
theorem dX3_removeAll_61 : decode cX3_removeAll 61 = .ok (.goto (-31), 3) := by decide +kernel
theorem dX3_removeAll_64 : decode cX3_removeAll 64 = .ok (.iload_n 1, 1) := by decide +kernel
theorem dX3_removeAll_65 : decode cX3_removeAll 65 = .ok (.ireturn, 1) := by decide +kernel
set_option maxRecDepth 20000 in
theorem ggX3_pack_X1_packFrom : GoodIn wsX3_pack wsX1_packFrom := goodIn_r _ [9, 10, 11, 12, 13, 8, 14, 15, 16, 17, 18, 19, 20, 21, 22, 23, 24, 25, 26, 27, 28, 29, 30, 31, 32, 33, 34, 35, 36, 37, 38, 39, 40, 41, 42, 43, 44, 45, 46, 47, 48, 49, 50, 51, 52, 53, 54, 55, 56, 57, 58, 59, 60, 61, 62, 63, 64, 65, 66, 67, 68, 69, 70, 71, 72, 73, 74, 75, 76, 77, 78, 79, 80, 81, 82, 83, 84, 85, 86, 87, 88, 89, 90, 91, 92, 93, 94, 95, 96, 97, 98, 99, 100, 101, 102, 103, 104, 105, 106, 107, 108, 109, 110, 111, 112, 113, 114, 115, 116, 117, 118, 119, 120, 121, 122, 123, 124, 125, 126, 127, 128, 129, 130, 131, 132, 133, 134, 135, 136, 137, 138, 139, 140, 141, 142, 143, 144, 145, 146, 147, 148, 149, 150, 151, 152, 153, 154, 155, 156, 157, 158, 159, 197, 198, 199, 200, 201, 202, 203, 204, 205, 206, 207] (by decide +kernel) (by decide +kernel)
set_option maxRecDepth 20000 in
theorem gX3_pack_X1_packFrom : GoodIn wsX3_pack (wsV RX3 97 RX1 yX1_packFrom wsX1_packFrom) := goodIn_app (goodIn_of _ (by decide +kernel)) ggX3_pack_X1_packFrom
set_option maxRecDepth 20000 in
theorem ggX3_pack_X1_usedCells : GoodIn wsX3_pack wsX1_usedCells := goodIn_r _ [159, 15, 197, 198, 199, 200, 201, 202, 203, 204, 205] (by decide +kernel) (by decide +kernel)
set_option maxRecDepth 20000 in
theorem gX3_pack_X1_usedCells : GoodIn wsX3_pack (wsV RX3 103 RX1 yX1_usedCells wsX1_usedCells) := goodIn_app (goodIn_of _ (by decide +kernel)) ggX3_pack_X1_usedCells
set_option maxRecDepth 20000 in
theorem ggX3_pack_X3_saveState : GoodIn wsX3_pack wsX3_saveState := goodIn_r _ [164, 165, 166, 4, 167, 168, 169, 28, 170, 171, 172, 173, 8, 174, 15, 21, 22, 23, 24, 25, 26, 16, 10, 175, 176, 177, 178, 179, 180, 181, 182, 183, 184, 185, 186, 187, 33, 188, 35, 36, 189, 190, 191, 192, 193, 194, 195, 196, 197, 198, 199, 200, 201, 202, 203, 204, 205, 206, 207] (by decide +kernel) (by decide +kernel)
set_option maxRecDepth 20000 in
theorem gX3_pack_X3_saveState : GoodIn wsX3_pack (wsV RX3 70 RX3 yX3_saveState wsX3_saveState) := goodIn_app (goodIn_of _ (by decide +kernel)) ggX3_pack_X3_saveState
set_option maxRecDepth 20000 in
theorem ggX3_pack_X1_copyFrom : GoodIn wsX3_pack wsX1_copyFrom := goodIn_r _ [174, 15, 21, 22, 23, 24, 25, 26, 16, 10, 175, 28, 176, 177, 178, 179, 180, 181, 182, 183, 184, 185, 186, 187, 33, 188, 35, 36, 189, 190, 197, 198, 199, 200, 201, 202, 203, 204, 205, 206, 207] (by decide +kernel) (by decide +kernel)
set_option maxRecDepth 20000 in
theorem gX3_pack_X1_copyFrom : GoodIn wsX3_pack (wsV RX3 73 RX1 yX1_copyFrom wsX1_copyFrom) := goodIn_app (goodIn_of _ (by decide +kernel)) ggX3_pack_X1_copyFrom
theorem dX3_pack_0 : decode cX3_pack 0 = .ok (.aload_n 0, 1) := by decide +kernel
theorem dX3_pack_1 : decode cX3_pack 1 = .ok (.getfield 16, 3) := by decide +kernel
theorem dX3_pack_4 : decode cX3_pack 4 = .ok (.aload_n 0, 1) := by decide +kernel
theorem dX3_pack_5 : decode cX3_pack 5 = .ok (.getfield 12, 3) := by decide +kernel
theorem dX3_pack_8 : decode cX3_pack 8 = .ok (.invokevirtual 97, 3) := by decide +kernel
theorem dX3_pack_11 : decode cX3_pack 11 = .ok (.istore_n 1, 1) := by decide +kernel
theorem dX3_pack_12 : decode cX3_pack 12 = .ok (.iload_n 1, 1) := by decide +kernel
theorem dX3_pack_13 : decode cX3_pack 13 = .ok (.iconst (-1), 1) := by decide +kernel
theorem dX3_pack_14 : decode cX3_pack 14 = .ok (.if_icmp .ne 13, 3) := by decide +kernel
theorem dX3_pack_17 : decode cX3_pack 17 = .ok (.new 41, 3) := by decide +kernel
theorem dX3_pack_20 : decode cX3_pack 20 = .ok (.dup, 1) := by decide +kernel
theorem dX3_pack_21 : decode cX3_pack 21 = .ok (.ldc 101, 2) := by decide +kernel
theorem dX3_pack_23 : decode cX3_pack 23 = .ok (.invokespecial 45, 3) := by decide +kernel
theorem dX3_pack_26 : decode cX3_pack 26 = .ok (.athrow, 1) := by decide +kernel
theorem dX3_pack_27 : decode cX3_pack 27 = .ok (.aload_n 0, 1) := by decide +kernel
theorem dX3_pack_28 : decode cX3_pack 28 = .ok (.getfield 12, 3) := by decide +kernel
theorem dX3_pack_31 : decode cX3_pack 31 = .ok (.invokevirtual 103, 3) := by decide +kernel
theorem dX3_pack_34 : decode cX3_pack 34 = .ok (.iload_n 1, 1) := by decide +kernel
theorem dX3_pack_35 : decode cX3_pack 35 = .ok (.isub, 1) := by decide +kernel
theorem dX3_pack_36 : decode cX3_pack 36 = .ok (.istore_n 2, 1) := by decide +kernel
theorem dX3_pack_37 : decode cX3_pack 37 = .ok (.aload_n 0, 1) := by decide +kernel
theorem dX3_pack_38 : decode cX3_pack 38 = .ok (.invokevirtual 70, 3) := by decide +kernel
theorem dX3_pack_41 : decode cX3_pack 41 = .ok (.aload_n 0, 1) := by decide +kernel
theorem dX3_pack_42 : decode cX3_pack 42 = .ok (.getfield 12, 3) := by decide +kernel
theorem dX3_pack_45 : decode cX3_pack 45 = .ok (.aload_n 0, 1) := by decide +kernel
theorem dX3_pack_46 : decode cX3_pack 46 = .ok (.getfield 16, 3) := by decide +kernel
theorem dX3_pack_49 : decode cX3_pack 49 = .ok (.invokevirtual 73, 3) := by decide +kernel
theorem dX3_pack_52 : decode cX3_pack 52 = .ok (.iload_n 2, 1) := by decide +kernel
theorem dX3_pack_53 : decode cX3_pack 53 = .ok (.sipush 1000, 3) := by decide +kernel
theorem dX3_pack_56 : decode cX3_pack 56 = .ok (.iadd, 1) := by decide +kernel
theorem dX3_pack_57 : decode cX3_pack 57 = .ok (.ireturn, 1) := by decide +kernel
set_option maxRecDepth 20000 in
theorem ggX3_undo_X1_copyFrom : GoodIn wsX3_undo wsX1_copyFrom := goodIn_r _ [10, 11, 12, 13, 14, 15, 16, 17, 18, 19, 20, 21, 22, 23, 24, 25, 26, 27, 28, 29, 30, 31, 32, 33, 34, 35, 36, 37, 38, 39, 46, 47, 48, 49, 50, 51, 52, 53, 54, 55, 56] (by decide +kernel) (by decide +kernel)
set_option maxRecDepth 20000 in
theorem gX3_undo_X1_copyFrom : GoodIn wsX3_undo (wsV RX3 73 RX1 yX1_copyFrom wsX1_copyFrom) := goodIn_app (goodIn_of _ (by decide +kernel)) ggX3_undo_X1_copyFrom
theorem dX3_undo_0 : decode cX3_undo 0 = .ok (.aload_n 0, 1) := by decide +kernel
theorem dX3_undo_1 : decode cX3_undo 1 = .ok (.getfield 23, 3) := by decide +kernel
theorem dX3_undo_4 : decode cX3_undo 4 = .ok (.ifCond .le 15, 3) := by decide +kernel
theorem dX3_undo_7 : decode cX3_undo 7 = .ok (.aload_n 0, 1) := by decide +kernel
theorem dX3_undo_8 : decode cX3_undo 8 = .ok (.getfield 23, 3) := by decide +kernel
theorem dX3_undo_11 : decode cX3_undo 11 = .ok (.aload_n 0, 1) := by decide +kernel
theorem dX3_undo_12 : decode cX3_undo 12 = .ok (.getfield 19, 3) := by decide +kernel
theorem dX3_undo_15 : decode cX3_undo 15 = .ok (.arraylength, 1) := by decide +kernel
theorem dX3_undo_16 : decode cX3_undo 16 = .ok (.if_icmp .le 13, 3) := by decide +kernel
theorem dX3_undo_19 : decode cX3_undo 19 = .ok (.new 41, 3) := by decide +kernel
theorem dX3_undo_22 : decode cX3_undo 22 = .ok (.dup, 1) := by decide +kernel
theorem dX3_undo_23 : decode cX3_undo 23 = .ok (.ldc 106, 2) := by decide +kernel
theorem dX3_undo_25 : decode cX3_undo 25 = .ok (.invokespecial 45, 3) := by decide +kernel
theorem dX3_undo_28 : decode cX3_undo 28 = .ok (.athrow, 1) := by decide +kernel
theorem dX3_undo_29 : decode cX3_undo 29 = .ok (.aload_n 0, 1) := by decide +kernel
theorem dX3_undo_30 : decode cX3_undo 30 = .ok (.dup, 1) := by decide +kernel
theorem dX3_undo_31 : decode cX3_undo 31 = .ok (.getfield 23, 3) := by decide +kernel
theorem dX3_undo_34 : decode cX3_undo 34 = .ok (.iconst 1, 1) := by decide +kernel
theorem dX3_undo_35 : decode cX3_undo 35 = .ok (.isub, 1) := by decide +kernel
theorem dX3_undo_36 : decode cX3_undo 36 = .ok (.putfield 23, 3) := by decide +kernel
theorem dX3_undo_39 : decode cX3_undo 39 = .ok (.aload_n 0, 1) := by decide +kernel
theorem dX3_undo_40 : decode cX3_undo 40 = .ok (.getfield 19, 3) := by decide +kernel
theorem dX3_undo_43 : decode cX3_undo 43 = .ok (.aload_n 0, 1) := by decide +kernel
theorem dX3_undo_44 : decode cX3_undo 44 = .ok (.getfield 23, 3) := by decide +kernel
theorem dX3_undo_47 : decode cX3_undo 47 = .ok (.aaload, 1) := by decide +kernel
theorem dX3_undo_48 : decode cX3_undo 48 = .ok (.astore_n 1, 1) := by decide +kernel
theorem dX3_undo_49 : decode cX3_undo 49 = .ok (.aload_n 1, 1) := by decide +kernel
theorem dX3_undo_50 : decode cX3_undo 50 = .ok (.ifnull 11, 3) := by decide +kernel
theorem dX3_undo_53 : decode cX3_undo 53 = .ok (.aload_n 0, 1) := by decide +kernel
theorem dX3_undo_54 : decode cX3_undo 54 = .ok (.getfield 12, 3) := by decide +kernel
theorem dX3_undo_57 : decode cX3_undo 57 = .ok (.aload_n 1, 1) := by decide +kernel
theorem dX3_undo_58 : decode cX3_undo 58 = .ok (.invokevirtual 73, 3) := by decide +kernel
theorem dX3_undo_61 : decode cX3_undo 61 = .ok (.aload_n 0, 1) := by decide +kernel
theorem dX3_undo_62 : decode cX3_undo 62 = .ok (.getfield 23, 3) := by decide +kernel
theorem dX3_undo_65 : decode cX3_undo 65 = .ok (.ireturn, 1) := by decide +kernel
set_option maxRecDepth 20000 in
theorem ggX3_cell_X1_propertyOf : GoodIn wsX3_cell wsX1_propertyOf := goodIn_r _ [10, 11, 12, 13, 14, 15, 16, 17, 18, 19, 20, 21, 22, 9, 23, 24, 25, 26, 27, 28, 29, 30, 31, 38, 39, 40, 41, 42, 43, 44, 45, 46] (by decide +kernel) (by decide +kernel)
set_option maxRecDepth 20000 in
theorem gX3_cell_X1_propertyOf : GoodIn wsX3_cell (wsV RX3 115 RX1 yX1_propertyOf wsX1_propertyOf) := goodIn_app (goodIn_of _ (by decide +kernel)) ggX3_cell_X1_propertyOf
theorem dX3_cell_0 : decode cX3_cell 0 = .ok (.iload_n 1, 1) := by decide +kernel
theorem dX3_cell_1 : decode cX3_cell 1 = .ok (.ifCond .lt 10, 3) := by decide +kernel
theorem dX3_cell_4 : decode cX3_cell 4 = .ok (.iload_n 1, 1) := by decide +kernel
theorem dX3_cell_5 : decode cX3_cell 5 = .ok (.sipush 160, 3) := by decide +kernel
theorem dX3_cell_8 : decode cX3_cell 8 = .ok (.if_icmp .lt 13, 3) := by decide +kernel
theorem dX3_cell_11 : decode cX3_cell 11 = .ok (.new 108, 3) := by decide +kernel
theorem dX3_cell_14 : decode cX3_cell 14 = .ok (.dup, 1) := by decide +kernel
theorem dX3_cell_15 : decode cX3_cell 15 = .ok (.ldc 110, 2) := by decide +kernel
theorem dX3_cell_17 : decode cX3_cell 17 = .ok (.invokespecial 112, 3) := by decide +kernel
theorem dX3_cell_20 : decode cX3_cell 20 = .ok (.athrow, 1) := by decide +kernel
theorem dX3_cell_21 : decode cX3_cell 21 = .ok (.iload_n 2, 1) := by decide +kernel
theorem dX3_cell_22 : decode cX3_cell 22 = .ok (.ifCond .lt 9, 3) := by decide +kernel
theorem dX3_cell_25 : decode cX3_cell 25 = .ok (.iload_n 2, 1) := by decide +kernel
theorem dX3_cell_26 : decode cX3_cell 26 = .ok (.bipush 6, 2) := by decide +kernel
theorem dX3_cell_28 : decode cX3_cell 28 = .ok (.if_icmp .le 13, 3) := by decide +kernel
theorem dX3_cell_31 : decode cX3_cell 31 = .ok (.new 34, 3) := by decide +kernel
theorem dX3_cell_34 : decode cX3_cell 34 = .ok (.dup, 1) := by decide +kernel
theorem dX3_cell_35 : decode cX3_cell 35 = .ok (.ldc 113, 2) := by decide +kernel
theorem dX3_cell_37 : decode cX3_cell 37 = .ok (.invokespecial 38, 3) := by decide +kernel
theorem dX3_cell_40 : decode cX3_cell 40 = .ok (.athrow, 1) := by decide +kernel
theorem dX3_cell_41 : decode cX3_cell 41 = .ok (.aload_n 0, 1) := by decide +kernel
theorem dX3_cell_42 : decode cX3_cell 42 = .ok (.getfield 12, 3) := by decide +kernel
theorem dX3_cell_45 : decode cX3_cell 45 = .ok (.iload_n 1, 1) := by decide +kernel
theorem dX3_cell_46 : decode cX3_cell 46 = .ok (.iload_n 2, 1) := by decide +kernel
theorem dX3_cell_47 : decode cX3_cell 47 = .ok (.invokevirtual 115, 3) := by decide +kernel
theorem dX3_cell_50 : decode cX3_cell 50 = .ok (.ireturn, 1) := by decide +kernel
set_option maxRecDepth 20000 in
theorem ggX3_end_X0_usesOf : GoodIn wsX3_end wsX0_usesOf := goodIn_r _ [11, 12, 13, 14, 15, 47, 48] (by decide +kernel) (by decide +kernel)
set_option maxRecDepth 20000 in
theorem gX3_end_X0_usesOf : GoodIn wsX3_end (wsV RX3 127 RX0 yX0_usesOf wsX0_usesOf) := goodIn_app (goodIn_of _ (by decide +kernel)) ggX3_end_X0_usesOf
set_option maxRecDepth 20000 in
theorem ggX3_end_X0_textAt : GoodIn wsX3_end wsX0_textAt := goodIn_r _ [19, 20, 47, 48] (by decide +kernel) (by decide +kernel)
set_option maxRecDepth 20000 in
theorem gX3_end_X0_textAt : GoodIn wsX3_end (wsV RX3 132 RX0 yX0_textAt wsX0_textAt) := goodIn_app (goodIn_of _ (by decide +kernel)) ggX3_end_X0_textAt
set_option maxRecDepth 20000 in
theorem ggX3_end_X2_lengthOf : GoodIn wsX3_end wsX2_lengthOf := goodIn_r _ [24, 25, 26, 23, 27, 28, 29, 30, 31] (by decide +kernel) (by decide +kernel)
set_option maxRecDepth 20000 in
theorem gX3_end_X2_lengthOf : GoodIn wsX3_end (va_wsS RX3 135 yX2_lengthOf wsX2_lengthOf) := goodIn_app (goodIn_of _ (by decide +kernel)) ggX3_end_X2_lengthOf
theorem dX3_end_0 : decode cX3_end 0 = .ok (.iload_n 1, 1) := by decide +kernel
theorem dX3_end_1 : decode cX3_end 1 = .ok (.ifCond .lt 9, 3) := by decide +kernel
theorem dX3_end_4 : decode cX3_end 4 = .ok (.iload_n 1, 1) := by decide +kernel
theorem dX3_end_5 : decode cX3_end 5 = .ok (.bipush 40, 2) := by decide +kernel
theorem dX3_end_7 : decode cX3_end 7 = .ok (.if_icmp .lt 13, 3) := by decide +kernel
theorem dX3_end_10 : decode cX3_end 10 = .ok (.new 108, 3) := by decide +kernel
theorem dX3_end_13 : decode cX3_end 13 = .ok (.dup, 1) := by decide +kernel
theorem dX3_end_14 : decode cX3_end 14 = .ok (.ldc 119, 2) := by decide +kernel
theorem dX3_end_16 : decode cX3_end 16 = .ok (.invokespecial 112, 3) := by decide +kernel
theorem dX3_end_19 : decode cX3_end 19 = .ok (.athrow, 1) := by decide +kernel
theorem dX3_end_20 : decode cX3_end 20 = .ok (.iload_n 2, 1) := by decide +kernel
theorem dX3_end_21 : decode cX3_end 21 = .ok (.ifCond .lt 8, 3) := by decide +kernel
theorem dX3_end_24 : decode cX3_end 24 = .ok (.iload_n 2, 1) := by decide +kernel
theorem dX3_end_25 : decode cX3_end 25 = .ok (.iconst 1, 1) := by decide +kernel
theorem dX3_end_26 : decode cX3_end 26 = .ok (.if_icmp .le 13, 3) := by decide +kernel
theorem dX3_end_29 : decode cX3_end 29 = .ok (.new 34, 3) := by decide +kernel
theorem dX3_end_32 : decode cX3_end 32 = .ok (.dup, 1) := by decide +kernel
theorem dX3_end_33 : decode cX3_end 33 = .ok (.ldc 121, 2) := by decide +kernel
theorem dX3_end_35 : decode cX3_end 35 = .ok (.invokespecial 38, 3) := by decide +kernel
theorem dX3_end_38 : decode cX3_end 38 = .ok (.athrow, 1) := by decide +kernel
theorem dX3_end_39 : decode cX3_end 39 = .ok (.aload_n 0, 1) := by decide +kernel
theorem dX3_end_40 : decode cX3_end 40 = .ok (.getfield 12, 3) := by decide +kernel
theorem dX3_end_43 : decode cX3_end 43 = .ok (.getfield 123, 3) := by decide +kernel
theorem dX3_end_46 : decode cX3_end 46 = .ok (.iload_n 1, 1) := by decide +kernel
theorem dX3_end_47 : decode cX3_end 47 = .ok (.invokevirtual 127, 3) := by decide +kernel
theorem dX3_end_50 : decode cX3_end 50 = .ok (.istore_n 3, 1) := by decide +kernel
theorem dX3_end_51 : decode cX3_end 51 = .ok (.iload_n 2, 1) := by decide +kernel
theorem dX3_end_52 : decode cX3_end 52 = .ok (.ifCond .ne 5, 3) := by decide +kernel
theorem dX3_end_55 : decode cX3_end 55 = .ok (.iload_n 3, 1) := by decide +kernel
theorem dX3_end_56 : decode cX3_end 56 = .ok (.ireturn, 1) := by decide +kernel
theorem dX3_end_57 : decode cX3_end 57 = .ok (.iload_n 3, 1) := by decide +kernel
theorem dX3_end_58 : decode cX3_end 58 = .ok (.ifCond .ne 7, 3) := by decide +kernel
theorem dX3_end_61 : decode cX3_end 61 = .ok (.iconst (-1), 1) := by decide +kernel
theorem dX3_end_62 : decode cX3_end 62 = .ok (.goto 17, 3) := by decide +kernel
theorem dX3_end_65 : decode cX3_end 65 = .ok (.aload_n 0, 1) := by decide +kernel
theorem dX3_end_66 : decode cX3_end 66 = .ok (.getfield 12, 3) := by decide +kernel
theorem dX3_end_69 : decode cX3_end 69 = .ok (.getfield 123, 3) := by decide +kernel
theorem dX3_end_72 : decode cX3_end 72 = .ok (.iload_n 1, 1) := by decide +kernel
theorem dX3_end_73 : decode cX3_end 73 = .ok (.invokevirtual 132, 3) := by decide +kernel
theorem dX3_end_76 : decode cX3_end 76 = .ok (.invokestatic 135, 3) := by decide +kernel
theorem dX3_end_79 : decode cX3_end 79 = .ok (.ireturn, 1) := by decide +kernel
set_option maxRecDepth 20000 in
theorem ggX3_letter_X0_textAt : GoodIn wsX3_letter wsX0_textAt := goodIn_r _ [11, 12, 36, 37] (by decide +kernel) (by decide +kernel)
set_option maxRecDepth 20000 in
theorem gX3_letter_X0_textAt : GoodIn wsX3_letter (wsV RX3 132 RX0 yX0_textAt wsX0_textAt) := goodIn_app (goodIn_of _ (by decide +kernel)) ggX3_letter_X0_textAt
set_option maxRecDepth 20000 in
theorem ggX3_letter_X2_letterAt : GoodIn wsX3_letter wsX2_letterAt := goodIn_r _ [16, 17, 18, 15, 19, 20] (by decide +kernel) (by decide +kernel)
set_option maxRecDepth 20000 in
theorem gX3_letter_X2_letterAt : GoodIn wsX3_letter (va_wsS RX3 54 yX2_letterAt wsX2_letterAt) := goodIn_app (goodIn_of _ (by decide +kernel)) ggX3_letter_X2_letterAt
theorem dX3_letter_0 : decode cX3_letter 0 = .ok (.iload_n 1, 1) := by decide +kernel
theorem dX3_letter_1 : decode cX3_letter 1 = .ok (.ifCond .lt 9, 3) := by decide +kernel
theorem dX3_letter_4 : decode cX3_letter 4 = .ok (.iload_n 1, 1) := by decide +kernel
theorem dX3_letter_5 : decode cX3_letter 5 = .ok (.bipush 40, 2) := by decide +kernel
theorem dX3_letter_7 : decode cX3_letter 7 = .ok (.if_icmp .lt 13, 3) := by decide +kernel
theorem dX3_letter_10 : decode cX3_letter 10 = .ok (.new 108, 3) := by decide +kernel
theorem dX3_letter_13 : decode cX3_letter 13 = .ok (.dup, 1) := by decide +kernel
theorem dX3_letter_14 : decode cX3_letter 14 = .ok (.ldc 119, 2) := by decide +kernel
theorem dX3_letter_16 : decode cX3_letter 16 = .ok (.invokespecial 112, 3) := by decide +kernel
theorem dX3_letter_19 : decode cX3_letter 19 = .ok (.athrow, 1) := by decide +kernel
theorem dX3_letter_20 : decode cX3_letter 20 = .ok (.iload_n 2, 1) := by decide +kernel
theorem dX3_letter_21 : decode cX3_letter 21 = .ok (.ifCond .lt 9, 3) := by decide +kernel
theorem dX3_letter_24 : decode cX3_letter 24 = .ok (.iload_n 2, 1) := by decide +kernel
theorem dX3_letter_25 : decode cX3_letter 25 = .ok (.bipush 12, 2) := by decide +kernel
theorem dX3_letter_27 : decode cX3_letter 27 = .ok (.if_icmp .lt 13, 3) := by decide +kernel
theorem dX3_letter_30 : decode cX3_letter 30 = .ok (.new 34, 3) := by decide +kernel
theorem dX3_letter_33 : decode cX3_letter 33 = .ok (.dup, 1) := by decide +kernel
theorem dX3_letter_34 : decode cX3_letter 34 = .ok (.ldc 138, 2) := by decide +kernel
theorem dX3_letter_36 : decode cX3_letter 36 = .ok (.invokespecial 38, 3) := by decide +kernel
theorem dX3_letter_39 : decode cX3_letter 39 = .ok (.athrow, 1) := by decide +kernel
theorem dX3_letter_40 : decode cX3_letter 40 = .ok (.aload_n 0, 1) := by decide +kernel
theorem dX3_letter_41 : decode cX3_letter 41 = .ok (.getfield 12, 3) := by decide +kernel
theorem dX3_letter_44 : decode cX3_letter 44 = .ok (.getfield 123, 3) := by decide +kernel
theorem dX3_letter_47 : decode cX3_letter 47 = .ok (.iload_n 1, 1) := by decide +kernel
theorem dX3_letter_48 : decode cX3_letter 48 = .ok (.invokevirtual 132, 3) := by decide +kernel
theorem dX3_letter_51 : decode cX3_letter 51 = .ok (.iload_n 2, 1) := by decide +kernel
theorem dX3_letter_52 : decode cX3_letter 52 = .ok (.invokestatic 54, 3) := by decide +kernel
theorem dX3_letter_55 : decode cX3_letter 55 = .ok (.istore_n 3, 1) := by decide +kernel
theorem dX3_letter_56 : decode cX3_letter 56 = .ok (.iload_n 3, 1) := by decide +kernel
theorem dX3_letter_57 : decode cX3_letter 57 = .ok (.ifCond .ne 7, 3) := by decide +kernel
theorem dX3_letter_60 : decode cX3_letter 60 = .ok (.iconst (-1), 1) := by decide +kernel
theorem dX3_letter_61 : decode cX3_letter 61 = .ok (.goto 4, 3) := by decide +kernel
theorem dX3_letter_64 : decode cX3_letter 64 = .ok (.iload_n 3, 1) := by decide +kernel
theorem dX3_letter_65 : decode cX3_letter 65 = .ok (.ireturn, 1) := by decide +kernel
set_option maxRecDepth 20000 in
theorem ggX3_count_X1_words : GoodIn wsX3_count wsX1_words := goodIn_r _ [12, 13, 14, 15, 16, 74, 75, 76, 77, 78, 79, 80, 81, 82] (by decide +kernel) (by decide +kernel)
set_option maxRecDepth 20000 in
theorem gX3_count_X1_words : GoodIn wsX3_count (wsV RX3 140 RX1 yX1_words wsX1_words) := goodIn_app (goodIn_of _ (by decide +kernel)) ggX3_count_X1_words
set_option maxRecDepth 20000 in
theorem ggX3_count_X1_usedCells : GoodIn wsX3_count wsX1_usedCells := goodIn_r _ [20, 21, 74, 75, 76, 77, 78, 79, 80, 81, 82] (by decide +kernel) (by decide +kernel)
set_option maxRecDepth 20000 in
theorem gX3_count_X1_usedCells : GoodIn wsX3_count (wsV RX3 103 RX1 yX1_usedCells wsX1_usedCells) := goodIn_app (goodIn_of _ (by decide +kernel)) ggX3_count_X1_usedCells
set_option maxRecDepth 20000 in
theorem ggX3_count_X1_innerCells : GoodIn wsX3_count wsX1_innerCells := goodIn_r _ [25, 21, 74, 75, 76, 77, 78, 79, 80, 81, 82] (by decide +kernel) (by decide +kernel)
set_option maxRecDepth 20000 in
theorem gX3_count_X1_innerCells : GoodIn wsX3_count (wsV RX3 143 RX1 yX1_innerCells wsX1_innerCells) := goodIn_app (goodIn_of _ (by decide +kernel)) ggX3_count_X1_innerCells
set_option maxRecDepth 20000 in
theorem ggX3_count_X0_kept : GoodIn wsX3_count wsX0_kept := goodIn_r _ [30, 31, 83, 84] (by decide +kernel) (by decide +kernel)
set_option maxRecDepth 20000 in
theorem gX3_count_X0_kept : GoodIn wsX3_count (wsV RX3 146 RX0 yX0_kept wsX0_kept) := goodIn_app (goodIn_of _ (by decide +kernel)) ggX3_count_X0_kept
set_option maxRecDepth 20000 in
theorem ggX3_count_X0_letters : GoodIn wsX3_count wsX0_letters := goodIn_r _ [35, 36, 37, 38, 39, 40, 41, 42, 43, 44, 45, 46, 47, 83, 84] (by decide +kernel) (by decide +kernel)
set_option maxRecDepth 20000 in
theorem gX3_count_X0_letters : GoodIn wsX3_count (wsV RX3 149 RX0 yX0_letters wsX0_letters) := goodIn_app (goodIn_of _ (by decide +kernel)) ggX3_count_X0_letters
set_option maxRecDepth 20000 in
theorem ggX3_count_X1_greatestUsed : GoodIn wsX3_count wsX1_greatestUsed := goodIn_r _ [51, 21, 74, 75, 76, 77, 78, 79, 80, 81, 82] (by decide +kernel) (by decide +kernel)
set_option maxRecDepth 20000 in
theorem gX3_count_X1_greatestUsed : GoodIn wsX3_count (wsV RX3 155 RX1 yX1_greatestUsed wsX1_greatestUsed) := goodIn_app (goodIn_of _ (by decide +kernel)) ggX3_count_X1_greatestUsed
set_option maxRecDepth 20000 in
theorem ggX3_count_X1_lettersOfWords : GoodIn wsX3_count wsX1_lettersOfWords := goodIn_r _ [55, 56, 13, 21, 14, 15, 16, 57, 58, 59, 11, 60, 61, 62, 63, 64, 65, 29, 66, 36, 67, 38, 39, 40, 41, 42, 43, 44, 45, 46, 47, 74, 75, 76, 77, 78, 79, 80, 81, 82, 83, 84] (by decide +kernel) (by decide +kernel)
set_option maxRecDepth 20000 in
theorem gX3_count_X1_lettersOfWords : GoodIn wsX3_count (wsV RX3 158 RX1 yX1_lettersOfWords wsX1_lettersOfWords) := goodIn_app (goodIn_of _ (by decide +kernel)) ggX3_count_X1_lettersOfWords
theorem dX3_count_0 : decode cX3_count 0 = .ok (.iload_n 1, 1) := by decide +kernel
theorem dX3_count_1 : decode cX3_count 1 = .ok (.tableswitch 135 0 9 #[55, 63, 71, 79, 90, 101, 109, 117, 125, 130], 55) := by decide +kernel
theorem dX3_count_56 : decode cX3_count 56 = .ok (.aload_n 0, 1) := by decide +kernel
theorem dX3_count_57 : decode cX3_count 57 = .ok (.getfield 12, 3) := by decide +kernel
theorem dX3_count_60 : decode cX3_count 60 = .ok (.invokevirtual 140, 3) := by decide +kernel
theorem dX3_count_63 : decode cX3_count 63 = .ok (.ireturn, 1) := by decide +kernel
theorem dX3_count_64 : decode cX3_count 64 = .ok (.aload_n 0, 1) := by decide +kernel
theorem dX3_count_65 : decode cX3_count 65 = .ok (.getfield 12, 3) := by decide +kernel
theorem dX3_count_68 : decode cX3_count 68 = .ok (.invokevirtual 103, 3) := by decide +kernel
theorem dX3_count_71 : decode cX3_count 71 = .ok (.ireturn, 1) := by decide +kernel
theorem dX3_count_72 : decode cX3_count 72 = .ok (.aload_n 0, 1) := by decide +kernel
theorem dX3_count_73 : decode cX3_count 73 = .ok (.getfield 12, 3) := by decide +kernel
theorem dX3_count_76 : decode cX3_count 76 = .ok (.invokevirtual 143, 3) := by decide +kernel
theorem dX3_count_79 : decode cX3_count 79 = .ok (.ireturn, 1) := by decide +kernel
theorem dX3_count_80 : decode cX3_count 80 = .ok (.aload_n 0, 1) := by decide +kernel
theorem dX3_count_81 : decode cX3_count 81 = .ok (.getfield 12, 3) := by decide +kernel
theorem dX3_count_84 : decode cX3_count 84 = .ok (.getfield 123, 3) := by decide +kernel
theorem dX3_count_87 : decode cX3_count 87 = .ok (.invokevirtual 146, 3) := by decide +kernel
theorem dX3_count_90 : decode cX3_count 90 = .ok (.ireturn, 1) := by decide +kernel
theorem dX3_count_91 : decode cX3_count 91 = .ok (.aload_n 0, 1) := by decide +kernel
theorem dX3_count_92 : decode cX3_count 92 = .ok (.getfield 12, 3) := by decide +kernel
theorem dX3_count_95 : decode cX3_count 95 = .ok (.getfield 123, 3) := by decide +kernel
theorem dX3_count_98 : decode cX3_count 98 = .ok (.invokevirtual 149, 3) := by decide +kernel
theorem dX3_count_101 : decode cX3_count 101 = .ok (.ireturn, 1) := by decide +kernel
theorem dX3_count_102 : decode cX3_count 102 = .ok (.aload_n 0, 1) := by decide +kernel
theorem dX3_count_103 : decode cX3_count 103 = .ok (.getfield 12, 3) := by decide +kernel
theorem dX3_count_106 : decode cX3_count 106 = .ok (.getfield 152, 3) := by decide +kernel
theorem dX3_count_109 : decode cX3_count 109 = .ok (.ireturn, 1) := by decide +kernel
theorem dX3_count_110 : decode cX3_count 110 = .ok (.aload_n 0, 1) := by decide +kernel
theorem dX3_count_111 : decode cX3_count 111 = .ok (.getfield 12, 3) := by decide +kernel
theorem dX3_count_114 : decode cX3_count 114 = .ok (.invokevirtual 155, 3) := by decide +kernel
theorem dX3_count_117 : decode cX3_count 117 = .ok (.ireturn, 1) := by decide +kernel
theorem dX3_count_118 : decode cX3_count 118 = .ok (.aload_n 0, 1) := by decide +kernel
theorem dX3_count_119 : decode cX3_count 119 = .ok (.getfield 12, 3) := by decide +kernel
theorem dX3_count_122 : decode cX3_count 122 = .ok (.invokevirtual 158, 3) := by decide +kernel
theorem dX3_count_125 : decode cX3_count 125 = .ok (.ireturn, 1) := by decide +kernel
theorem dX3_count_126 : decode cX3_count 126 = .ok (.aload_n 0, 1) := by decide +kernel
theorem dX3_count_127 : decode cX3_count 127 = .ok (.getfield 31, 3) := by decide +kernel
theorem dX3_count_130 : decode cX3_count 130 = .ok (.ireturn, 1) := by decide +kernel
theorem dX3_count_131 : decode cX3_count 131 = .ok (.aload_n 0, 1) := by decide +kernel
theorem dX3_count_132 : decode cX3_count 132 = .ok (.getfield 23, 3) := by decide +kernel
theorem dX3_count_135 : decode cX3_count 135 = .ok (.ireturn, 1) := by decide +kernel
theorem dX3_count_136 : decode cX3_count 136 = .ok (.new 34, 3) := by decide +kernel
theorem dX3_count_139 : decode cX3_count 139 = .ok (.dup, 1) := by decide +kernel
theorem dX3_count_140 : decode cX3_count 140 = .ok (.ldc 161, 2) := by decide +kernel
theorem dX3_count_142 : decode cX3_count 142 = .ok (.invokespecial 38, 3) := by decide +kernel
theorem dX3_count_145 : decode cX3_count 145 = .ok (.athrow, 1) := by decide +kernel
set_option maxRecDepth 20000 in
theorem ggX3_find_X1_leafOf : GoodIn wsX3_find wsX1_leafOf := goodIn_r _ [7, 8, 9, 10, 11, 12, 13, 14, 6, 15, 16, 17, 18, 19, 20, 21, 22, 23, 24, 25, 26, 27, 28, 29, 30, 31, 32, 33, 34, 35, 36, 37, 44, 45, 46, 47, 48, 49, 50, 51, 52, 53, 54] (by decide +kernel) (by decide +kernel)
set_option maxRecDepth 20000 in
theorem gX3_find_X1_leafOf : GoodIn wsX3_find (wsV RX3 77 RX1 yX1_leafOf wsX1_leafOf) := goodIn_app (goodIn_of _ (by decide +kernel)) ggX3_find_X1_leafOf
theorem dX3_find_0 : decode cX3_find 0 = .ok (.aload_n 0, 1) := by decide +kernel
theorem dX3_find_1 : decode cX3_find 1 = .ok (.getfield 12, 3) := by decide +kernel
theorem dX3_find_4 : decode cX3_find 4 = .ok (.aload_n 0, 1) := by decide +kernel
theorem dX3_find_5 : decode cX3_find 5 = .ok (.getfield 27, 3) := by decide +kernel
theorem dX3_find_8 : decode cX3_find 8 = .ok (.invokevirtual 77, 3) := by decide +kernel
theorem dX3_find_11 : decode cX3_find 11 = .ok (.ireturn, 1) := by decide +kernel
set_option maxRecDepth 20000 in
theorem ggX3_longest_X1_longestAtStartOf : GoodIn wsX3_longest wsX1_longestAtStartOf := goodIn_r _ [7, 8, 9, 10, 11, 12, 13, 14, 6, 15, 16, 17, 18, 19, 20, 21, 22, 23, 24, 25, 26, 27, 28, 29, 30, 31, 32, 33, 34, 35, 36, 37, 38, 39, 40, 41, 42, 43, 44, 45, 46, 47, 48, 49, 50, 51, 58, 59, 60, 61, 62, 63, 64, 65, 66, 67, 68] (by decide +kernel) (by decide +kernel)
set_option maxRecDepth 20000 in
theorem gX3_longest_X1_longestAtStartOf : GoodIn wsX3_longest (wsV RX3 163 RX1 yX1_longestAtStartOf wsX1_longestAtStartOf) := goodIn_app (goodIn_of _ (by decide +kernel)) ggX3_longest_X1_longestAtStartOf
theorem dX3_longest_0 : decode cX3_longest 0 = .ok (.aload_n 0, 1) := by decide +kernel
theorem dX3_longest_1 : decode cX3_longest 1 = .ok (.getfield 12, 3) := by decide +kernel
theorem dX3_longest_4 : decode cX3_longest 4 = .ok (.aload_n 0, 1) := by decide +kernel
theorem dX3_longest_5 : decode cX3_longest 5 = .ok (.getfield 27, 3) := by decide +kernel
theorem dX3_longest_8 : decode cX3_longest 8 = .ok (.invokevirtual 163, 3) := by decide +kernel
theorem dX3_longest_11 : decode cX3_longest 11 = .ok (.ireturn, 1) := by decide +kernel
set_option maxRecDepth 20000 in
theorem ggX3_beginning_X1_wordsWith : GoodIn wsX3_beginning wsX1_wordsWith := goodIn_r _ [7, 8, 9, 10, 11, 12, 13, 14, 15, 6, 16, 17, 18, 19, 20, 21, 22, 23, 24, 25, 26, 27, 28, 29, 30, 31, 32, 33, 34, 35, 36, 37, 38, 39, 40, 41, 42, 43, 44, 45, 46, 47, 48, 49, 50, 51, 58, 59, 60, 61, 62, 63, 64, 65, 66, 67, 68] (by decide +kernel) (by decide +kernel)
set_option maxRecDepth 20000 in
theorem gX3_beginning_X1_wordsWith : GoodIn wsX3_beginning (wsV RX3 87 RX1 yX1_wordsWith wsX1_wordsWith) := goodIn_app (goodIn_of _ (by decide +kernel)) ggX3_beginning_X1_wordsWith
theorem dX3_beginning_0 : decode cX3_beginning 0 = .ok (.aload_n 0, 1) := by decide +kernel
theorem dX3_beginning_1 : decode cX3_beginning 1 = .ok (.getfield 12, 3) := by decide +kernel
theorem dX3_beginning_4 : decode cX3_beginning 4 = .ok (.aload_n 0, 1) := by decide +kernel
theorem dX3_beginning_5 : decode cX3_beginning 5 = .ok (.getfield 27, 3) := by decide +kernel
theorem dX3_beginning_8 : decode cX3_beginning 8 = .ok (.invokevirtual 87, 3) := by decide +kernel
theorem dX3_beginning_11 : decode cX3_beginning 11 = .ok (.ireturn, 1) := by decide +kernel
set_option maxRecDepth 20000 in
theorem ggX3_ahead_X1_wordsAhead : GoodIn wsX3_ahead wsX1_wordsAhead := goodIn_r _ [7, 8, 9, 10, 11, 12, 13, 14, 6, 15, 16, 17, 18, 19, 20, 21, 22, 23, 24, 25, 26, 27, 28, 29, 30, 31, 32, 33, 34, 35, 36, 37, 38, 39, 40, 41, 42, 43, 44, 45, 46, 47, 48, 49, 56, 57, 58, 59, 60, 61, 62, 63, 64, 65, 66] (by decide +kernel) (by decide +kernel)
set_option maxRecDepth 20000 in
theorem gX3_ahead_X1_wordsAhead : GoodIn wsX3_ahead (wsV RX3 90 RX1 yX1_wordsAhead wsX1_wordsAhead) := goodIn_app (goodIn_of _ (by decide +kernel)) ggX3_ahead_X1_wordsAhead
theorem dX3_ahead_0 : decode cX3_ahead 0 = .ok (.aload_n 0, 1) := by decide +kernel
theorem dX3_ahead_1 : decode cX3_ahead 1 = .ok (.getfield 12, 3) := by decide +kernel
theorem dX3_ahead_4 : decode cX3_ahead 4 = .ok (.aload_n 0, 1) := by decide +kernel
theorem dX3_ahead_5 : decode cX3_ahead 5 = .ok (.getfield 27, 3) := by decide +kernel
theorem dX3_ahead_8 : decode cX3_ahead 8 = .ok (.invokevirtual 90, 3) := by decide +kernel
theorem dX3_ahead_11 : decode cX3_ahead 11 = .ok (.ireturn, 1) := by decide +kernel
set_option maxRecDepth 20000 in
theorem ggX3_word_X1_wordAt : GoodIn wsX3_word wsX1_wordAt := goodIn_r _ [8, 9, 10, 11, 12, 7, 13, 14, 15, 16, 17, 18, 19, 20, 21, 22, 23, 24, 25, 26, 27, 28, 29, 30, 31, 32, 33, 34, 35, 36, 37, 38, 39, 40, 41, 42, 43, 44, 45, 46, 47, 65, 66, 67, 68, 69, 70, 71, 72, 73, 74, 75] (by decide +kernel) (by decide +kernel)
set_option maxRecDepth 20000 in
theorem gX3_word_X1_wordAt : GoodIn wsX3_word (wsV RX3 93 RX1 yX1_wordAt wsX1_wordAt) := goodIn_app (goodIn_of _ (by decide +kernel)) ggX3_word_X1_wordAt
set_option maxRecDepth 20000 in
theorem ggX3_word_X2_lengthOf : GoodIn wsX3_word wsX2_lengthOf := goodIn_r _ [50, 51, 52, 46, 53, 54, 55, 56, 57] (by decide +kernel) (by decide +kernel)
set_option maxRecDepth 20000 in
theorem gX3_word_X2_lengthOf : GoodIn wsX3_word (va_wsS RX3 135 yX2_lengthOf wsX2_lengthOf) := goodIn_app (goodIn_of _ (by decide +kernel)) ggX3_word_X2_lengthOf
set_option maxRecDepth 20000 in
theorem ggX3_word_X2_letterAt : GoodIn wsX3_word wsX2_letterAt := goodIn_r _ [53, 54, 55, 46, 56, 57] (by decide +kernel) (by decide +kernel)
set_option maxRecDepth 20000 in
theorem gX3_word_X2_letterAt : GoodIn wsX3_word (va_wsS RX3 54 yX2_letterAt wsX2_letterAt) := goodIn_app (goodIn_of _ (by decide +kernel)) ggX3_word_X2_letterAt
theorem dX3_word_0 : decode cX3_word 0 = .ok (.iload_n 1, 1) := by decide +kernel
theorem dX3_word_1 : decode cX3_word 1 = .ok (.ifCond .ge 13, 3) := by decide +kernel
theorem dX3_word_4 : decode cX3_word 4 = .ok (.new 34, 3) := by decide +kernel
theorem dX3_word_7 : decode cX3_word 7 = .ok (.dup, 1) := by decide +kernel
theorem dX3_word_8 : decode cX3_word 8 = .ok (.ldc 166, 2) := by decide +kernel
theorem dX3_word_10 : decode cX3_word 10 = .ok (.invokespecial 38, 3) := by decide +kernel
theorem dX3_word_13 : decode cX3_word 13 = .ok (.athrow, 1) := by decide +kernel
theorem dX3_word_14 : decode cX3_word 14 = .ok (.iload_n 2, 1) := by decide +kernel
theorem dX3_word_15 : decode cX3_word 15 = .ok (.ifCond .lt 9, 3) := by decide +kernel
theorem dX3_word_18 : decode cX3_word 18 = .ok (.iload_n 2, 1) := by decide +kernel
theorem dX3_word_19 : decode cX3_word 19 = .ok (.bipush 12, 2) := by decide +kernel
theorem dX3_word_21 : decode cX3_word 21 = .ok (.if_icmp .le 13, 3) := by decide +kernel
theorem dX3_word_24 : decode cX3_word 24 = .ok (.new 34, 3) := by decide +kernel
theorem dX3_word_27 : decode cX3_word 27 = .ok (.dup, 1) := by decide +kernel
theorem dX3_word_28 : decode cX3_word 28 = .ok (.ldc 168, 2) := by decide +kernel
theorem dX3_word_30 : decode cX3_word 30 = .ok (.invokespecial 38, 3) := by decide +kernel
theorem dX3_word_33 : decode cX3_word 33 = .ok (.athrow, 1) := by decide +kernel
theorem dX3_word_34 : decode cX3_word 34 = .ok (.aload_n 0, 1) := by decide +kernel
theorem dX3_word_35 : decode cX3_word 35 = .ok (.getfield 12, 3) := by decide +kernel
theorem dX3_word_38 : decode cX3_word 38 = .ok (.iload_n 1, 1) := by decide +kernel
theorem dX3_word_39 : decode cX3_word 39 = .ok (.invokevirtual 93, 3) := by decide +kernel
theorem dX3_word_42 : decode cX3_word 42 = .ok (.lstore_n 3, 1) := by decide +kernel
theorem dX3_word_43 : decode cX3_word 43 = .ok (.lload_n 3, 1) := by decide +kernel
theorem dX3_word_44 : decode cX3_word 44 = .ok (.lconst 0, 1) := by decide +kernel
theorem dX3_word_45 : decode cX3_word 45 = .ok (.lcmp, 1) := by decide +kernel
theorem dX3_word_46 : decode cX3_word 46 = .ok (.ifCond .eq 11, 3) := by decide +kernel
theorem dX3_word_49 : decode cX3_word 49 = .ok (.iload_n 2, 1) := by decide +kernel
theorem dX3_word_50 : decode cX3_word 50 = .ok (.lload_n 3, 1) := by decide +kernel
theorem dX3_word_51 : decode cX3_word 51 = .ok (.invokestatic 135, 3) := by decide +kernel
theorem dX3_word_54 : decode cX3_word 54 = .ok (.if_icmp .le 5, 3) := by decide +kernel
theorem dX3_word_57 : decode cX3_word 57 = .ok (.iconst (-1), 1) := by decide +kernel
theorem dX3_word_58 : decode cX3_word 58 = .ok (.ireturn, 1) := by decide +kernel
theorem dX3_word_59 : decode cX3_word 59 = .ok (.lload_n 3, 1) := by decide +kernel
theorem dX3_word_60 : decode cX3_word 60 = .ok (.iload_n 2, 1) := by decide +kernel
theorem dX3_word_61 : decode cX3_word 61 = .ok (.invokestatic 54, 3) := by decide +kernel
theorem dX3_word_64 : decode cX3_word 64 = .ok (.ireturn, 1) := by decide +kernel
set_option maxRecDepth 20000 in
theorem ggX3_ifAdded_X3_tryToAdd : GoodIn wsX3_ifAdded wsX3_tryToAdd := goodIn_r _ [7, 8, 9, 10, 11, 12, 13, 14, 15, 16, 17, 18, 6, 19, 20, 21, 22, 23, 24, 25, 26, 27, 28, 29, 30, 31, 32, 33, 34, 35, 36, 37, 38, 39, 40, 41, 42, 43, 44, 45, 46, 47, 48, 49, 50, 51, 52, 53, 54, 55, 56, 57, 58, 59, 60, 61, 62, 63, 64, 65, 66, 67, 68, 69, 70, 71, 72, 73, 74, 75, 76, 77, 78, 79, 80, 81, 82, 83, 84, 85, 86, 87, 88, 89, 90, 91, 92, 93, 94, 95, 96, 97, 98, 99, 100, 101, 102, 103, 104, 105, 106, 107, 108, 109, 110, 111, 112, 113, 114, 115, 116, 117, 118, 119, 120, 121, 122, 123, 124, 125, 126, 127, 128, 129, 130, 131, 132, 133, 134, 135, 136, 137, 138, 139, 140, 141, 142, 143, 144, 145, 146, 147, 162, 163, 164, 165, 166, 167, 168, 169, 170, 171, 172, 173, 174, 175, 176, 177, 178] (by decide +kernel) (by decide +kernel)
set_option maxRecDepth 20000 in
theorem gX3_ifAdded_X3_tryToAdd : GoodIn wsX3_ifAdded (wsV RX3 62 RX3 yX3_tryToAdd wsX3_tryToAdd) := goodIn_app (goodIn_of _ (by decide +kernel)) ggX3_ifAdded_X3_tryToAdd
set_option maxRecDepth 20000 in
theorem ggX3_ifAdded_X3_costOfTrial : GoodIn wsX3_ifAdded wsX3_costOfTrial := goodIn_r _ [151, 11, 9, 152, 153, 154, 155, 156, 15, 157, 17, 158, 159, 160, 29, 161, 68, 162, 163, 164, 165, 166, 167, 168, 169, 170, 171, 172, 173, 174, 175, 176, 177, 178] (by decide +kernel) (by decide +kernel)
set_option maxRecDepth 20000 in
theorem gX3_ifAdded_X3_costOfTrial : GoodIn wsX3_ifAdded (wsV RX3 172 RX3 yX3_costOfTrial wsX3_costOfTrial) := goodIn_app (goodIn_of _ (by decide +kernel)) ggX3_ifAdded_X3_costOfTrial
theorem dX3_ifAdded_0 : decode cX3_ifAdded 0 = .ok (.iload_n 1, 1) := by decide +kernel
theorem dX3_ifAdded_1 : decode cX3_ifAdded 1 = .ok (.ifCond .lt 8, 3) := by decide +kernel
theorem dX3_ifAdded_4 : decode cX3_ifAdded 4 = .ok (.iload_n 1, 1) := by decide +kernel
theorem dX3_ifAdded_5 : decode cX3_ifAdded 5 = .ok (.iconst 3, 1) := by decide +kernel
theorem dX3_ifAdded_6 : decode cX3_ifAdded 6 = .ok (.if_icmp .le 13, 3) := by decide +kernel
theorem dX3_ifAdded_9 : decode cX3_ifAdded 9 = .ok (.new 34, 3) := by decide +kernel
theorem dX3_ifAdded_12 : decode cX3_ifAdded 12 = .ok (.dup, 1) := by decide +kernel
theorem dX3_ifAdded_13 : decode cX3_ifAdded 13 = .ok (.ldc 170, 2) := by decide +kernel
theorem dX3_ifAdded_15 : decode cX3_ifAdded 15 = .ok (.invokespecial 38, 3) := by decide +kernel
theorem dX3_ifAdded_18 : decode cX3_ifAdded 18 = .ok (.athrow, 1) := by decide +kernel
theorem dX3_ifAdded_19 : decode cX3_ifAdded 19 = .ok (.aload_n 0, 1) := by decide +kernel
theorem dX3_ifAdded_20 : decode cX3_ifAdded 20 = .ok (.aload_n 0, 1) := by decide +kernel
theorem dX3_ifAdded_21 : decode cX3_ifAdded 21 = .ok (.invokevirtual 62, 3) := by decide +kernel
theorem dX3_ifAdded_24 : decode cX3_ifAdded 24 = .ok (.iload_n 1, 1) := by decide +kernel
theorem dX3_ifAdded_25 : decode cX3_ifAdded 25 = .ok (.invokevirtual 172, 3) := by decide +kernel
theorem dX3_ifAdded_28 : decode cX3_ifAdded 28 = .ok (.ireturn, 1) := by decide +kernel
set_option maxRecDepth 20000 in
theorem ggX3_ifPacked_X1_packFrom : GoodIn wsX3_ifPacked wsX1_packFrom := goodIn_r _ [7, 8, 9, 10, 11, 6, 12, 13, 14, 15, 16, 17, 18, 19, 20, 21, 22, 23, 24, 25, 26, 27, 28, 29, 30, 31, 32, 33, 34, 35, 36, 37, 38, 39, 40, 41, 42, 43, 44, 45, 46, 47, 48, 49, 50, 51, 52, 53, 54, 55, 56, 57, 58, 59, 60, 61, 62, 63, 64, 65, 66, 67, 68, 69, 70, 71, 72, 73, 74, 75, 76, 77, 78, 79, 80, 81, 82, 83, 84, 85, 86, 87, 88, 89, 90, 91, 92, 93, 94, 95, 96, 97, 98, 99, 100, 101, 102, 103, 104, 105, 106, 107, 108, 109, 110, 111, 112, 113, 114, 115, 116, 117, 118, 119, 120, 121, 122, 123, 124, 125, 126, 127, 128, 129, 130, 131, 132, 133, 134, 135, 136, 137, 138, 139, 140, 141, 142, 143, 144, 145, 146, 147, 148, 149, 150, 151, 152, 153, 154, 155, 156, 157, 164, 165, 166, 167, 168, 169, 170, 171, 172, 173, 174] (by decide +kernel) (by decide +kernel)
set_option maxRecDepth 20000 in
theorem gX3_ifPacked_X1_packFrom : GoodIn wsX3_ifPacked (wsV RX3 97 RX1 yX1_packFrom wsX1_packFrom) := goodIn_app (goodIn_of _ (by decide +kernel)) ggX3_ifPacked_X1_packFrom
theorem dX3_ifPacked_0 : decode cX3_ifPacked 0 = .ok (.aload_n 0, 1) := by decide +kernel
theorem dX3_ifPacked_1 : decode cX3_ifPacked 1 = .ok (.getfield 16, 3) := by decide +kernel
theorem dX3_ifPacked_4 : decode cX3_ifPacked 4 = .ok (.aload_n 0, 1) := by decide +kernel
theorem dX3_ifPacked_5 : decode cX3_ifPacked 5 = .ok (.getfield 12, 3) := by decide +kernel
theorem dX3_ifPacked_8 : decode cX3_ifPacked 8 = .ok (.invokevirtual 97, 3) := by decide +kernel
theorem dX3_ifPacked_11 : decode cX3_ifPacked 11 = .ok (.ireturn, 1) := by decide +kernel
set_option maxRecDepth 20000 in
theorem ggX3_fullness_X1_usedCells : GoodIn wsX3_fullness wsX1_usedCells := goodIn_r _ [6, 7, 18, 19, 20, 21, 22, 23, 24, 25, 26] (by decide +kernel) (by decide +kernel)
set_option maxRecDepth 20000 in
theorem gX3_fullness_X1_usedCells : GoodIn wsX3_fullness (wsV RX3 103 RX1 yX1_usedCells wsX1_usedCells) := goodIn_app (goodIn_of _ (by decide +kernel)) ggX3_fullness_X1_usedCells
set_option maxRecDepth 20000 in
theorem ggX3_fullness_X1_greatestUsed : GoodIn wsX3_fullness wsX1_greatestUsed := goodIn_r _ [11, 7, 18, 19, 20, 21, 22, 23, 24, 25, 26] (by decide +kernel) (by decide +kernel)
set_option maxRecDepth 20000 in
theorem gX3_fullness_X1_greatestUsed : GoodIn wsX3_fullness (wsV RX3 155 RX1 yX1_greatestUsed wsX1_greatestUsed) := goodIn_app (goodIn_of _ (by decide +kernel)) ggX3_fullness_X1_greatestUsed
theorem dX3_fullness_0 : decode cX3_fullness 0 = .ok (.aload_n 0, 1) := by decide +kernel
theorem dX3_fullness_1 : decode cX3_fullness 1 = .ok (.getfield 12, 3) := by decide +kernel
theorem dX3_fullness_4 : decode cX3_fullness 4 = .ok (.invokevirtual 103, 3) := by decide +kernel
theorem dX3_fullness_7 : decode cX3_fullness 7 = .ok (.i2d, 1) := by decide +kernel
theorem dX3_fullness_8 : decode cX3_fullness 8 = .ok (.aload_n 0, 1) := by decide +kernel
theorem dX3_fullness_9 : decode cX3_fullness 9 = .ok (.getfield 12, 3) := by decide +kernel
theorem dX3_fullness_12 : decode cX3_fullness 12 = .ok (.invokevirtual 155, 3) := by decide +kernel
theorem dX3_fullness_15 : decode cX3_fullness 15 = .ok (.iconst 1, 1) := by decide +kernel
theorem dX3_fullness_16 : decode cX3_fullness 16 = .ok (.iadd, 1) := by decide +kernel
theorem dX3_fullness_17 : decode cX3_fullness 17 = .ok (.i2d, 1) := by decide +kernel
theorem dX3_fullness_18 : decode cX3_fullness 18 = .ok (.ddiv, 1) := by decide +kernel
theorem dX3_fullness_19 : decode cX3_fullness 19 = .ok (.dreturn, 1) := by decide +kernel
set_option maxRecDepth 20000 in
theorem ggX3_digest_X3_count : GoodIn wsX3_digest wsX3_count := goodIn_ca (goodIn_r _ [10, 11, 12, 3, 13, 14, 4, 15, 16, 17, 18, 19, 20, 21, 22, 9, 23, 24, 25, 26, 27, 28, 29, 30, 31, 32, 33, 34, 35, 36, 37, 38, 39, 40, 41, 42, 43, 44, 45, 46, 47, 48, 49, 50, 51, 52, 53, 54, 55, 56, 57, 58, 59, 60, 61, 62, 63, 64, 65, 66, 67, 68, 69, 70, 71, 72, 73, 74, 309, 310, 311, 312, 313, 314, 315, 316, 317, 318, 319, 320, 321, 322, 323, 324, 325] (by decide +kernel) (by decide +kernel)) (goodIn_sub (fun _ h => List.mem_cons_of_mem _ (List.mem_append_right _ h)) (by decide +kernel))
set_option maxRecDepth 20000 in
theorem gX3_digest_X3_count : GoodIn wsX3_digest (wsV RX3 177 RX3 yX3_count wsX3_count) := goodIn_app (goodIn_of _ (by decide +kernel)) ggX3_digest_X3_count
set_option maxRecDepth 20000 in
theorem ggX3_digest_X3_mix : GoodIn wsX3_digest wsX3_mix := goodIn_r _ [77, 78] (by decide +kernel) (by decide +kernel)
set_option maxRecDepth 20000 in
theorem gX3_digest_X3_mix : GoodIn wsX3_digest (va_wsS RX3 180 yX3_mix wsX3_mix) := goodIn_app (goodIn_of _ (by decide +kernel)) ggX3_digest_X3_mix
set_option maxRecDepth 20000 in
theorem ggX3_digest_X3_mixCells : GoodIn wsX3_digest wsX3_mixCells := goodIn_r _ [82, 3, 83, 84, 85, 19, 86, 28, 87, 63, 88, 69, 21, 22, 9, 23, 89, 90, 91, 92, 93, 94, 95, 96, 97, 98, 99, 100, 75, 76, 77, 78, 309, 310, 311, 312, 313, 314, 315, 316, 317, 318, 319, 320, 321, 322, 323] (by decide +kernel) (by decide +kernel)
set_option maxRecDepth 20000 in
theorem gX3_digest_X3_mixCells : GoodIn wsX3_digest (wsV RX3 184 RX3 yX3_mixCells wsX3_mixCells) := goodIn_app (goodIn_of _ (by decide +kernel)) ggX3_digest_X3_mixCells
set_option maxRecDepth 20000 in
theorem ggX3_digest_X3_mixEnds : GoodIn wsX3_digest wsX3_mixEnds := goodIn_r _ [104, 3, 13, 105, 106, 107, 36, 108, 38, 22, 9, 23, 109, 71, 72, 73, 43, 110, 45, 46, 47, 48, 49, 50, 51, 52, 53, 54, 75, 76, 77, 78, 111, 309, 310, 311, 312, 313, 314, 315, 316, 317, 318, 319, 320, 321, 322, 323, 324, 325] (by decide +kernel) (by decide +kernel)
set_option maxRecDepth 20000 in
theorem gX3_digest_X3_mixEnds : GoodIn wsX3_digest (wsV RX3 188 RX3 yX3_mixEnds wsX3_mixEnds) := goodIn_app (goodIn_of _ (by decide +kernel)) ggX3_digest_X3_mixEnds
set_option maxRecDepth 20000 in
theorem ggX3_digest_X3_find : GoodIn wsX3_digest wsX3_find := goodIn_r _ [115, 3, 5, 116, 117, 118, 19, 119, 28, 22, 9, 23, 64, 65, 66, 67, 68, 69, 70, 71, 72, 36, 73, 43, 120, 52, 46, 53, 54, 121, 122, 123, 124, 93, 88, 125, 126, 127, 309, 310, 311, 312, 313, 314, 315, 316, 317, 318, 319, 320, 321, 322, 323, 324, 325] (by decide +kernel) (by decide +kernel)
set_option maxRecDepth 20000 in
theorem gX3_digest_X3_find : GoodIn wsX3_digest (wsV RX3 191 RX3 yX3_find wsX3_find) := goodIn_app (goodIn_of _ (by decide +kernel)) ggX3_digest_X3_find
set_option maxRecDepth 20000 in
theorem ggX3_digest_X3_longest : GoodIn wsX3_digest wsX3_longest := goodIn_r _ [131, 3, 5, 132, 133, 134, 19, 135, 28, 22, 9, 23, 64, 65, 66, 67, 68, 69, 70, 71, 72, 36, 73, 43, 136, 137, 46, 138, 139, 45, 47, 48, 49, 50, 51, 52, 53, 54, 140, 141, 142, 74, 121, 122, 123, 124, 93, 88, 120, 125, 126, 127, 309, 310, 311, 312, 313, 314, 315, 316, 317, 318, 319, 320, 321, 322, 323, 324, 325] (by decide +kernel) (by decide +kernel)
set_option maxRecDepth 20000 in
theorem gX3_digest_X3_longest : GoodIn wsX3_digest (wsV RX3 194 RX3 yX3_longest wsX3_longest) := goodIn_app (goodIn_of _ (by decide +kernel)) ggX3_digest_X3_longest
set_option maxRecDepth 20000 in
theorem ggX3_digest_X3_beginning : GoodIn wsX3_digest wsX3_beginning := goodIn_r _ [146, 3, 5, 147, 148, 149, 19, 150, 28, 21, 22, 9, 23, 64, 65, 66, 67, 68, 69, 70, 71, 72, 36, 73, 43, 136, 137, 46, 138, 139, 45, 47, 48, 49, 50, 51, 52, 53, 54, 140, 141, 142, 120, 121, 122, 123, 124, 93, 88, 125, 126, 127, 309, 310, 311, 312, 313, 314, 315, 316, 317, 318, 319, 320, 321, 322, 323, 324, 325] (by decide +kernel) (by decide +kernel)
set_option maxRecDepth 20000 in
theorem gX3_digest_X3_beginning : GoodIn wsX3_digest (wsV RX3 197 RX3 yX3_beginning wsX3_beginning) := goodIn_app (goodIn_of _ (by decide +kernel)) ggX3_digest_X3_beginning
set_option maxRecDepth 20000 in
theorem ggX3_digest_X3_ahead : GoodIn wsX3_digest wsX3_ahead := goodIn_r _ [154, 3, 5, 155, 156, 157, 19, 158, 28, 22, 9, 23, 64, 65, 66, 67, 68, 69, 70, 71, 72, 36, 73, 43, 159, 160, 46, 161, 48, 49, 50, 51, 52, 53, 54, 120, 162, 163, 164, 165, 21, 121, 122, 123, 124, 93, 88, 125, 126, 127, 309, 310, 311, 312, 313, 314, 315, 316, 317, 318, 319, 320, 321, 322, 323, 324, 325] (by decide +kernel) (by decide +kernel)
set_option maxRecDepth 20000 in
theorem gX3_digest_X3_ahead : GoodIn wsX3_digest (wsV RX3 200 RX3 yX3_ahead wsX3_ahead) := goodIn_app (goodIn_of _ (by decide +kernel)) ggX3_digest_X3_ahead
set_option maxRecDepth 20000 in
theorem ggX3_digest_X3_word : GoodIn wsX3_digest wsX3_word := goodIn_ca (goodIn_r _ [169, 11, 12, 3, 170, 171, 172, 19, 173, 28, 174, 17, 18, 20, 21, 22, 9, 23, 64, 65, 66, 67, 68, 69, 70, 71, 72, 36, 73, 43, 175, 176, 177, 178, 121, 122, 123, 124, 93, 88, 162, 163, 164, 165, 179, 180, 46, 181, 110, 45, 47, 48, 49, 50, 51, 52, 53, 54, 111, 309, 310, 311, 312, 313, 314, 315, 316, 317, 318, 319, 320, 321, 322, 323, 324, 325] (by decide +kernel) (by decide +kernel)) (goodIn_sub (fun _ h => List.mem_cons_of_mem _ (List.mem_append_right _ h)) (by decide +kernel))
set_option maxRecDepth 20000 in
theorem gX3_digest_X3_word : GoodIn wsX3_digest (wsV RX3 203 RX3 yX3_word wsX3_word) := goodIn_app (goodIn_of _ (by decide +kernel)) ggX3_digest_X3_word
set_option maxRecDepth 20000 in
theorem ggX3_digest_X3_tryToAdd : GoodIn wsX3_digest wsX3_tryToAdd := goodIn_r _ [185, 4, 3, 5, 2, 116, 117, 118, 19, 119, 28, 22, 9, 23, 64, 65, 66, 67, 68, 69, 70, 71, 72, 36, 73, 43, 120, 52, 46, 53, 54, 121, 122, 123, 124, 93, 88, 125, 126, 127, 186, 187, 188, 189, 87, 63, 21, 190, 191, 192, 193, 194, 195, 196, 197, 198, 199, 200, 201, 202, 203, 204, 38, 205, 206, 207, 208, 209, 210, 211, 212, 213, 214, 215, 216, 217, 218, 219, 220, 221, 222, 223, 224, 225, 226, 227, 228, 229, 230, 231, 232, 233, 234, 235, 236, 237, 238, 239, 240, 241, 242, 243, 244, 245, 246, 247, 248, 249, 250, 251, 252, 89, 90, 91, 92, 94, 95, 96, 97, 98, 99, 100, 253, 254, 255, 256, 257, 258, 259, 260, 261, 262, 263, 264, 265, 266, 267, 268, 269, 270, 271, 272, 309, 310, 311, 312, 313, 314, 315, 316, 317, 318, 319, 320, 321, 322, 323, 324, 325] (by decide +kernel) (by decide +kernel)
set_option maxRecDepth 20000 in
theorem gX3_digest_X3_tryToAdd : GoodIn wsX3_digest (wsV RX3 62 RX3 yX3_tryToAdd wsX3_tryToAdd) := goodIn_app (goodIn_of _ (by decide +kernel)) ggX3_digest_X3_tryToAdd
set_option maxRecDepth 20000 in
theorem ggX3_digest_X3_costOfTrial : GoodIn wsX3_digest wsX3_costOfTrial := goodIn_r _ [276, 2, 3, 14, 13, 24, 25, 26, 19, 27, 28, 33, 34, 35, 36, 37, 38, 309, 310, 311, 312, 313, 314, 315, 316, 317, 318, 319, 320, 321, 322, 323, 324, 325] (by decide +kernel) (by decide +kernel)
set_option maxRecDepth 20000 in
theorem gX3_digest_X3_costOfTrial : GoodIn wsX3_digest (wsV RX3 172 RX3 yX3_costOfTrial wsX3_costOfTrial) := goodIn_app (goodIn_of _ (by decide +kernel)) ggX3_digest_X3_costOfTrial
set_option maxRecDepth 20000 in
theorem ggX3_digest_X1_packFrom : GoodIn wsX3_digest wsX1_packFrom := goodIn_r _ [280, 190, 281, 282, 283, 19, 284, 28, 68, 265, 266, 267, 268, 87, 63, 88, 69, 93, 21, 219, 9, 220, 285, 286, 287, 36, 288, 38, 43, 289, 290, 291, 292, 293, 294, 295, 174, 17, 18, 20, 22, 23, 296, 171, 172, 173, 64, 65, 66, 67, 70, 71, 72, 73, 175, 176, 177, 178, 121, 122, 123, 124, 162, 163, 164, 165, 179, 180, 46, 181, 297, 208, 209, 210, 211, 212, 213, 214, 215, 216, 217, 218, 120, 52, 53, 54, 221, 222, 223, 224, 225, 226, 227, 228, 229, 230, 231, 232, 125, 126, 127, 233, 234, 235, 236, 237, 238, 239, 240, 241, 242, 243, 244, 245, 246, 247, 248, 249, 250, 251, 252, 89, 90, 91, 92, 94, 95, 96, 97, 98, 99, 100, 253, 254, 255, 256, 257, 258, 259, 260, 261, 262, 263, 264, 269, 270, 271, 272, 298, 25, 26, 27, 315, 316, 317, 318, 319, 320, 321, 322, 323, 324, 325] (by decide +kernel) (by decide +kernel)
set_option maxRecDepth 20000 in
theorem gX3_digest_X1_packFrom : GoodIn wsX3_digest (wsV RX3 97 RX1 yX1_packFrom wsX1_packFrom) := goodIn_app (goodIn_of _ (by decide +kernel)) ggX3_digest_X1_packFrom
set_option maxRecDepth 20000 in
theorem ggX3_digest_X3_fullness : GoodIn wsX3_digest wsX3_fullness := goodIn_r _ [302, 3, 24, 25, 26, 19, 27, 28, 55, 56, 57, 58, 309, 310, 311, 312, 313, 314, 315, 316, 317, 318, 319, 320, 321, 322, 323] (by decide +kernel) (by decide +kernel)
set_option maxRecDepth 20000 in
theorem gX3_digest_X3_fullness : GoodIn wsX3_digest (wsV RX3 206 RX3 yX3_fullness wsX3_fullness) := goodIn_app (goodIn_of _ (by decide +kernel)) ggX3_digest_X3_fullness
set_option maxRecDepth 20000 in
theorem ggX3_digest_X3_bitsOf : GoodIn wsX3_digest wsX3_bitsOf := goodIn_r _ [305, 306, 307, 308] (by decide +kernel) (by decide +kernel)
set_option maxRecDepth 20000 in
theorem gX3_digest_X3_bitsOf : GoodIn wsX3_digest (va_wsS RX3 210 yX3_bitsOf wsX3_bitsOf) := goodIn_app (goodIn_of _ (by decide +kernel)) ggX3_digest_X3_bitsOf
set_option maxRecDepth 20000 in
theorem ggX3_digest_X2_letterAt : GoodIn wsX3_digest wsX2_letterAt := goodIn_r _ [50, 51, 52, 46, 53, 54] (by decide +kernel) (by decide +kernel)
set_option maxRecDepth 20000 in
theorem gX3_digest_X2_letterAt : GoodIn wsX3_digest (va_wsS RX3 54 yX2_letterAt wsX2_letterAt) := goodIn_app (goodIn_of _ (by decide +kernel)) ggX3_digest_X2_letterAt
theorem dX3_digest_0 : decode cX3_digest 0 = .ok (.ldc2_w 175, 3) := by decide +kernel
theorem dX3_digest_3 : decode cX3_digest 3 = .ok (.lstore_n 1, 1) := by decide +kernel
theorem dX3_digest_4 : decode cX3_digest 4 = .ok (.iconst 0, 1) := by decide +kernel
theorem dX3_digest_5 : decode cX3_digest 5 = .ok (.istore_n 3, 1) := by decide +kernel
theorem dX3_digest_6 : decode cX3_digest 6 = .ok (.iload_n 3, 1) := by decide +kernel
theorem dX3_digest_7 : decode cX3_digest 7 = .ok (.bipush 9, 2) := by decide +kernel
theorem dX3_digest_9 : decode cX3_digest 9 = .ok (.if_icmp .gt 20, 3) := by decide +kernel
theorem dX3_digest_12 : decode cX3_digest 12 = .ok (.lload_n 1, 1) := by decide +kernel
theorem dX3_digest_13 : decode cX3_digest 13 = .ok (.aload_n 0, 1) := by decide +kernel
theorem dX3_digest_14 : decode cX3_digest 14 = .ok (.iload_n 3, 1) := by decide +kernel
theorem dX3_digest_15 : decode cX3_digest 15 = .ok (.invokevirtual 177, 3) := by decide +kernel
theorem dX3_digest_18 : decode cX3_digest 18 = .ok (.i2l, 1) := by decide +kernel
theorem dX3_digest_19 : decode cX3_digest 19 = .ok (.invokestatic 180, 3) := by decide +kernel
theorem dX3_digest_22 : decode cX3_digest 22 = .ok (.lstore_n 1, 1) := by decide +kernel
theorem dX3_digest_23 : decode cX3_digest 23 = .ok (.iinc 3 1, 3) := by decide +kernel
theorem dX3_digest_26 : decode cX3_digest 26 = .ok (.goto (-20), 3) := by decide +kernel
theorem dX3_digest_29 : decode cX3_digest 29 = .ok (.aload_n 0, 1) := by decide +kernel
theorem dX3_digest_30 : decode cX3_digest 30 = .ok (.lload_n 1, 1) := by decide +kernel
theorem dX3_digest_31 : decode cX3_digest 31 = .ok (.invokevirtual 184, 3) := by decide +kernel
theorem dX3_digest_34 : decode cX3_digest 34 = .ok (.lstore_n 1, 1) := by decide +kernel
theorem dX3_digest_35 : decode cX3_digest 35 = .ok (.aload_n 0, 1) := by decide +kernel
theorem dX3_digest_36 : decode cX3_digest 36 = .ok (.lload_n 1, 1) := by decide +kernel
theorem dX3_digest_37 : decode cX3_digest 37 = .ok (.invokevirtual 188, 3) := by decide +kernel
theorem dX3_digest_40 : decode cX3_digest 40 = .ok (.lstore_n 1, 1) := by decide +kernel
theorem dX3_digest_41 : decode cX3_digest 41 = .ok (.lload_n 1, 1) := by decide +kernel
theorem dX3_digest_42 : decode cX3_digest 42 = .ok (.aload_n 0, 1) := by decide +kernel
theorem dX3_digest_43 : decode cX3_digest 43 = .ok (.invokevirtual 191, 3) := by decide +kernel
theorem dX3_digest_46 : decode cX3_digest 46 = .ok (.i2l, 1) := by decide +kernel
theorem dX3_digest_47 : decode cX3_digest 47 = .ok (.invokestatic 180, 3) := by decide +kernel
theorem dX3_digest_50 : decode cX3_digest 50 = .ok (.lstore_n 1, 1) := by decide +kernel
theorem dX3_digest_51 : decode cX3_digest 51 = .ok (.lload_n 1, 1) := by decide +kernel
theorem dX3_digest_52 : decode cX3_digest 52 = .ok (.aload_n 0, 1) := by decide +kernel
theorem dX3_digest_53 : decode cX3_digest 53 = .ok (.invokevirtual 194, 3) := by decide +kernel
theorem dX3_digest_56 : decode cX3_digest 56 = .ok (.i2l, 1) := by decide +kernel
theorem dX3_digest_57 : decode cX3_digest 57 = .ok (.invokestatic 180, 3) := by decide +kernel
theorem dX3_digest_60 : decode cX3_digest 60 = .ok (.lstore_n 1, 1) := by decide +kernel
theorem dX3_digest_61 : decode cX3_digest 61 = .ok (.lload_n 1, 1) := by decide +kernel
theorem dX3_digest_62 : decode cX3_digest 62 = .ok (.aload_n 0, 1) := by decide +kernel
theorem dX3_digest_63 : decode cX3_digest 63 = .ok (.invokevirtual 197, 3) := by decide +kernel
theorem dX3_digest_66 : decode cX3_digest 66 = .ok (.i2l, 1) := by decide +kernel
theorem dX3_digest_67 : decode cX3_digest 67 = .ok (.invokestatic 180, 3) := by decide +kernel
theorem dX3_digest_70 : decode cX3_digest 70 = .ok (.lstore_n 1, 1) := by decide +kernel
theorem dX3_digest_71 : decode cX3_digest 71 = .ok (.lload_n 1, 1) := by decide +kernel
theorem dX3_digest_72 : decode cX3_digest 72 = .ok (.aload_n 0, 1) := by decide +kernel
theorem dX3_digest_73 : decode cX3_digest 73 = .ok (.invokevirtual 200, 3) := by decide +kernel
theorem dX3_digest_76 : decode cX3_digest 76 = .ok (.i2l, 1) := by decide +kernel
theorem dX3_digest_77 : decode cX3_digest 77 = .ok (.invokestatic 180, 3) := by decide +kernel
theorem dX3_digest_80 : decode cX3_digest 80 = .ok (.lstore_n 1, 1) := by decide +kernel
theorem dX3_digest_81 : decode cX3_digest 81 = .ok (.iconst 0, 1) := by decide +kernel
theorem dX3_digest_82 : decode cX3_digest 82 = .ok (.istore_n 3, 1) := by decide +kernel
theorem dX3_digest_83 : decode cX3_digest 83 = .ok (.iload_n 3, 1) := by decide +kernel
theorem dX3_digest_84 : decode cX3_digest 84 = .ok (.iconst 2, 1) := by decide +kernel
theorem dX3_digest_85 : decode cX3_digest 85 = .ok (.if_icmp .gt 38, 3) := by decide +kernel
theorem dX3_digest_88 : decode cX3_digest 88 = .ok (.iconst 0, 1) := by decide +kernel
theorem dX3_digest_89 : decode cX3_digest 89 = .ok (.istore 4, 2) := by decide +kernel
theorem dX3_digest_91 : decode cX3_digest 91 = .ok (.iload 4, 2) := by decide +kernel
theorem dX3_digest_93 : decode cX3_digest 93 = .ok (.bipush 12, 2) := by decide +kernel
theorem dX3_digest_95 : decode cX3_digest 95 = .ok (.if_icmp .gt 22, 3) := by decide +kernel
theorem dX3_digest_98 : decode cX3_digest 98 = .ok (.lload_n 1, 1) := by decide +kernel
theorem dX3_digest_99 : decode cX3_digest 99 = .ok (.aload_n 0, 1) := by decide +kernel
theorem dX3_digest_100 : decode cX3_digest 100 = .ok (.iload_n 3, 1) := by decide +kernel
theorem dX3_digest_101 : decode cX3_digest 101 = .ok (.iload 4, 2) := by decide +kernel
theorem dX3_digest_103 : decode cX3_digest 103 = .ok (.invokevirtual 203, 3) := by decide +kernel
theorem dX3_digest_106 : decode cX3_digest 106 = .ok (.i2l, 1) := by decide +kernel
theorem dX3_digest_107 : decode cX3_digest 107 = .ok (.invokestatic 180, 3) := by decide +kernel
theorem dX3_digest_110 : decode cX3_digest 110 = .ok (.lstore_n 1, 1) := by decide +kernel
theorem dX3_digest_111 : decode cX3_digest 111 = .ok (.iinc 4 1, 3) := by decide +kernel
theorem dX3_digest_114 : decode cX3_digest 114 = .ok (.goto (-23), 3) := by decide +kernel
theorem dX3_digest_117 : decode cX3_digest 117 = .ok (.iinc 3 1, 3) := by decide +kernel
theorem dX3_digest_120 : decode cX3_digest 120 = .ok (.goto (-37), 3) := by decide +kernel
theorem dX3_digest_123 : decode cX3_digest 123 = .ok (.aload_n 0, 1) := by decide +kernel
theorem dX3_digest_124 : decode cX3_digest 124 = .ok (.invokevirtual 62, 3) := by decide +kernel
theorem dX3_digest_127 : decode cX3_digest 127 = .ok (.istore_n 3, 1) := by decide +kernel
theorem dX3_digest_128 : decode cX3_digest 128 = .ok (.iconst 0, 1) := by decide +kernel
theorem dX3_digest_129 : decode cX3_digest 129 = .ok (.istore 4, 2) := by decide +kernel
theorem dX3_digest_131 : decode cX3_digest 131 = .ok (.iload 4, 2) := by decide +kernel
theorem dX3_digest_133 : decode cX3_digest 133 = .ok (.iconst 3, 1) := by decide +kernel
theorem dX3_digest_134 : decode cX3_digest 134 = .ok (.if_icmp .gt 22, 3) := by decide +kernel
theorem dX3_digest_137 : decode cX3_digest 137 = .ok (.lload_n 1, 1) := by decide +kernel
theorem dX3_digest_138 : decode cX3_digest 138 = .ok (.aload_n 0, 1) := by decide +kernel
theorem dX3_digest_139 : decode cX3_digest 139 = .ok (.iload_n 3, 1) := by decide +kernel
theorem dX3_digest_140 : decode cX3_digest 140 = .ok (.iload 4, 2) := by decide +kernel
theorem dX3_digest_142 : decode cX3_digest 142 = .ok (.invokevirtual 172, 3) := by decide +kernel
theorem dX3_digest_145 : decode cX3_digest 145 = .ok (.i2l, 1) := by decide +kernel
theorem dX3_digest_146 : decode cX3_digest 146 = .ok (.invokestatic 180, 3) := by decide +kernel
theorem dX3_digest_149 : decode cX3_digest 149 = .ok (.lstore_n 1, 1) := by decide +kernel
theorem dX3_digest_150 : decode cX3_digest 150 = .ok (.iinc 4 1, 3) := by decide +kernel
theorem dX3_digest_153 : decode cX3_digest 153 = .ok (.goto (-22), 3) := by decide +kernel
theorem dX3_digest_156 : decode cX3_digest 156 = .ok (.lload_n 1, 1) := by decide +kernel
theorem dX3_digest_157 : decode cX3_digest 157 = .ok (.aload_n 0, 1) := by decide +kernel
theorem dX3_digest_158 : decode cX3_digest 158 = .ok (.getfield 16, 3) := by decide +kernel
theorem dX3_digest_161 : decode cX3_digest 161 = .ok (.aload_n 0, 1) := by decide +kernel
theorem dX3_digest_162 : decode cX3_digest 162 = .ok (.getfield 12, 3) := by decide +kernel
theorem dX3_digest_165 : decode cX3_digest 165 = .ok (.invokevirtual 97, 3) := by decide +kernel
theorem dX3_digest_168 : decode cX3_digest 168 = .ok (.i2l, 1) := by decide +kernel
theorem dX3_digest_169 : decode cX3_digest 169 = .ok (.invokestatic 180, 3) := by decide +kernel
theorem dX3_digest_172 : decode cX3_digest 172 = .ok (.lstore_n 1, 1) := by decide +kernel
theorem dX3_digest_173 : decode cX3_digest 173 = .ok (.lload_n 1, 1) := by decide +kernel
theorem dX3_digest_174 : decode cX3_digest 174 = .ok (.aload_n 0, 1) := by decide +kernel
theorem dX3_digest_175 : decode cX3_digest 175 = .ok (.invokevirtual 206, 3) := by decide +kernel
theorem dX3_digest_178 : decode cX3_digest 178 = .ok (.invokestatic 210, 3) := by decide +kernel
theorem dX3_digest_181 : decode cX3_digest 181 = .ok (.invokestatic 180, 3) := by decide +kernel
theorem dX3_digest_184 : decode cX3_digest 184 = .ok (.lstore_n 1, 1) := by decide +kernel
theorem dX3_digest_185 : decode cX3_digest 185 = .ok (.iconst 0, 1) := by decide +kernel
theorem dX3_digest_186 : decode cX3_digest 186 = .ok (.istore 4, 2) := by decide +kernel
theorem dX3_digest_188 : decode cX3_digest 188 = .ok (.iload 4, 2) := by decide +kernel
theorem dX3_digest_190 : decode cX3_digest 190 = .ok (.aload_n 0, 1) := by decide +kernel
theorem dX3_digest_191 : decode cX3_digest 191 = .ok (.getfield 31, 3) := by decide +kernel
theorem dX3_digest_194 : decode cX3_digest 194 = .ok (.if_icmp .ge 24, 3) := by decide +kernel
theorem dX3_digest_197 : decode cX3_digest 197 = .ok (.lload_n 1, 1) := by decide +kernel
theorem dX3_digest_198 : decode cX3_digest 198 = .ok (.aload_n 0, 1) := by decide +kernel
theorem dX3_digest_199 : decode cX3_digest 199 = .ok (.getfield 27, 3) := by decide +kernel
theorem dX3_digest_202 : decode cX3_digest 202 = .ok (.iload 4, 2) := by decide +kernel
theorem dX3_digest_204 : decode cX3_digest 204 = .ok (.invokestatic 54, 3) := by decide +kernel
theorem dX3_digest_207 : decode cX3_digest 207 = .ok (.i2l, 1) := by decide +kernel
theorem dX3_digest_208 : decode cX3_digest 208 = .ok (.invokestatic 180, 3) := by decide +kernel
theorem dX3_digest_211 : decode cX3_digest 211 = .ok (.lstore_n 1, 1) := by decide +kernel
theorem dX3_digest_212 : decode cX3_digest 212 = .ok (.iinc 4 1, 3) := by decide +kernel
theorem dX3_digest_215 : decode cX3_digest 215 = .ok (.goto (-27), 3) := by decide +kernel
theorem dX3_digest_218 : decode cX3_digest 218 = .ok (.lload_n 1, 1) := by decide +kernel
theorem dX3_digest_219 : decode cX3_digest 219 = .ok (.lreturn, 1) := by decide +kernel
set_option maxRecDepth 20000 in
theorem ggX3_mixCells_X1_propertyOf : GoodIn wsX3_mixCells wsX1_propertyOf := goodIn_r _ [6, 7, 8, 9, 10, 11, 12, 13, 14, 15, 16, 17, 18, 5, 19, 20, 21, 22, 23, 24, 25, 26, 27, 38, 39, 40, 41, 42, 43, 44, 45, 46] (by decide +kernel) (by decide +kernel)
set_option maxRecDepth 20000 in
theorem gX3_mixCells_X1_propertyOf : GoodIn wsX3_mixCells (wsV RX3 115 RX1 yX1_propertyOf wsX1_propertyOf) := goodIn_app (goodIn_of _ (by decide +kernel)) ggX3_mixCells_X1_propertyOf
set_option maxRecDepth 20000 in
theorem ggX3_mixCells_X3_mix : GoodIn wsX3_mixCells wsX3_mix := goodIn_r _ [30, 31] (by decide +kernel) (by decide +kernel)
set_option maxRecDepth 20000 in
theorem gX3_mixCells_X3_mix : GoodIn wsX3_mixCells (va_wsS RX3 180 yX3_mix wsX3_mix) := goodIn_app (goodIn_of _ (by decide +kernel)) ggX3_mixCells_X3_mix
theorem dX3_mixCells_0 : decode cX3_mixCells 0 = .ok (.lload_n 1, 1) := by decide +kernel
theorem dX3_mixCells_1 : decode cX3_mixCells 1 = .ok (.lstore_n 3, 1) := by decide +kernel
theorem dX3_mixCells_2 : decode cX3_mixCells 2 = .ok (.iconst 0, 1) := by decide +kernel
theorem dX3_mixCells_3 : decode cX3_mixCells 3 = .ok (.istore 5, 2) := by decide +kernel
theorem dX3_mixCells_5 : decode cX3_mixCells 5 = .ok (.iload 5, 2) := by decide +kernel
theorem dX3_mixCells_7 : decode cX3_mixCells 7 = .ok (.sipush 160, 3) := by decide +kernel
theorem dX3_mixCells_10 : decode cX3_mixCells 10 = .ok (.if_icmp .ge 63, 3) := by decide +kernel
theorem dX3_mixCells_13 : decode cX3_mixCells 13 = .ok (.aload_n 0, 1) := by decide +kernel
theorem dX3_mixCells_14 : decode cX3_mixCells 14 = .ok (.getfield 12, 3) := by decide +kernel
theorem dX3_mixCells_17 : decode cX3_mixCells 17 = .ok (.iload 5, 2) := by decide +kernel
theorem dX3_mixCells_19 : decode cX3_mixCells 19 = .ok (.iconst 0, 1) := by decide +kernel
theorem dX3_mixCells_20 : decode cX3_mixCells 20 = .ok (.invokevirtual 115, 3) := by decide +kernel
theorem dX3_mixCells_23 : decode cX3_mixCells 23 = .ok (.ifCond .eq 44, 3) := by decide +kernel
theorem dX3_mixCells_26 : decode cX3_mixCells 26 = .ok (.lload_n 3, 1) := by decide +kernel
theorem dX3_mixCells_27 : decode cX3_mixCells 27 = .ok (.iload 5, 2) := by decide +kernel
theorem dX3_mixCells_29 : decode cX3_mixCells 29 = .ok (.i2l, 1) := by decide +kernel
theorem dX3_mixCells_30 : decode cX3_mixCells 30 = .ok (.invokestatic 180, 3) := by decide +kernel
theorem dX3_mixCells_33 : decode cX3_mixCells 33 = .ok (.lstore_n 3, 1) := by decide +kernel
theorem dX3_mixCells_34 : decode cX3_mixCells 34 = .ok (.iconst 0, 1) := by decide +kernel
theorem dX3_mixCells_35 : decode cX3_mixCells 35 = .ok (.istore 6, 2) := by decide +kernel
theorem dX3_mixCells_37 : decode cX3_mixCells 37 = .ok (.iload 6, 2) := by decide +kernel
theorem dX3_mixCells_39 : decode cX3_mixCells 39 = .ok (.bipush 6, 2) := by decide +kernel
theorem dX3_mixCells_41 : decode cX3_mixCells 41 = .ok (.if_icmp .gt 26, 3) := by decide +kernel
theorem dX3_mixCells_44 : decode cX3_mixCells 44 = .ok (.lload_n 3, 1) := by decide +kernel
theorem dX3_mixCells_45 : decode cX3_mixCells 45 = .ok (.aload_n 0, 1) := by decide +kernel
theorem dX3_mixCells_46 : decode cX3_mixCells 46 = .ok (.getfield 12, 3) := by decide +kernel
theorem dX3_mixCells_49 : decode cX3_mixCells 49 = .ok (.iload 5, 2) := by decide +kernel
theorem dX3_mixCells_51 : decode cX3_mixCells 51 = .ok (.iload 6, 2) := by decide +kernel
theorem dX3_mixCells_53 : decode cX3_mixCells 53 = .ok (.invokevirtual 115, 3) := by decide +kernel
theorem dX3_mixCells_56 : decode cX3_mixCells 56 = .ok (.i2l, 1) := by decide +kernel
theorem dX3_mixCells_57 : decode cX3_mixCells 57 = .ok (.invokestatic 180, 3) := by decide +kernel
theorem dX3_mixCells_60 : decode cX3_mixCells 60 = .ok (.lstore_n 3, 1) := by decide +kernel
theorem dX3_mixCells_61 : decode cX3_mixCells 61 = .ok (.iinc 6 1, 3) := by decide +kernel
theorem dX3_mixCells_64 : decode cX3_mixCells 64 = .ok (.goto (-27), 3) := by decide +kernel
theorem dX3_mixCells_67 : decode cX3_mixCells 67 = .ok (.iinc 5 1, 3) := by decide +kernel
theorem dX3_mixCells_70 : decode cX3_mixCells 70 = .ok (.goto (-65), 3) := by decide +kernel
theorem dX3_mixCells_73 : decode cX3_mixCells 73 = .ok (.lload_n 3, 1) := by decide +kernel
theorem dX3_mixCells_74 : decode cX3_mixCells 74 = .ok (.lreturn, 1) := by decide +kernel
set_option maxRecDepth 20000 in
theorem ggX3_mixEnds_X0_usesOf : GoodIn wsX3_mixEnds wsX0_usesOf := goodIn_r _ [7, 8, 9, 10, 11, 48, 49] (by decide +kernel) (by decide +kernel)
set_option maxRecDepth 20000 in
theorem gX3_mixEnds_X0_usesOf : GoodIn wsX3_mixEnds (wsV RX3 127 RX0 yX0_usesOf wsX0_usesOf) := goodIn_app (goodIn_of _ (by decide +kernel)) ggX3_mixEnds_X0_usesOf
set_option maxRecDepth 20000 in
theorem ggX3_mixEnds_X0_textAt : GoodIn wsX3_mixEnds wsX0_textAt := goodIn_r _ [15, 16, 48, 49] (by decide +kernel) (by decide +kernel)
set_option maxRecDepth 20000 in
theorem gX3_mixEnds_X0_textAt : GoodIn wsX3_mixEnds (wsV RX3 132 RX0 yX0_textAt wsX0_textAt) := goodIn_app (goodIn_of _ (by decide +kernel)) ggX3_mixEnds_X0_textAt
set_option maxRecDepth 20000 in
theorem ggX3_mixEnds_X2_lengthOf : GoodIn wsX3_mixEnds wsX2_lengthOf := goodIn_r _ [20, 21, 22, 19, 23, 24, 25, 26, 27] (by decide +kernel) (by decide +kernel)
set_option maxRecDepth 20000 in
theorem gX3_mixEnds_X2_lengthOf : GoodIn wsX3_mixEnds (va_wsS RX3 135 yX2_lengthOf wsX2_lengthOf) := goodIn_app (goodIn_of _ (by decide +kernel)) ggX3_mixEnds_X2_lengthOf
set_option maxRecDepth 20000 in
theorem ggX3_mixEnds_X3_mix : GoodIn wsX3_mixEnds wsX3_mix := goodIn_r _ [30, 31] (by decide +kernel) (by decide +kernel)
set_option maxRecDepth 20000 in
theorem gX3_mixEnds_X3_mix : GoodIn wsX3_mixEnds (va_wsS RX3 180 yX3_mix wsX3_mix) := goodIn_app (goodIn_of _ (by decide +kernel)) ggX3_mixEnds_X3_mix
set_option maxRecDepth 20000 in
theorem ggX3_mixEnds_X2_letterAt : GoodIn wsX3_mixEnds wsX2_letterAt := goodIn_r _ [23, 24, 25, 19, 26, 27] (by decide +kernel) (by decide +kernel)
set_option maxRecDepth 20000 in
theorem gX3_mixEnds_X2_letterAt : GoodIn wsX3_mixEnds (va_wsS RX3 54 yX2_letterAt wsX2_letterAt) := goodIn_app (goodIn_of _ (by decide +kernel)) ggX3_mixEnds_X2_letterAt
theorem dX3_mixEnds_0 : decode cX3_mixEnds 0 = .ok (.lload_n 1, 1) := by decide +kernel
theorem dX3_mixEnds_1 : decode cX3_mixEnds 1 = .ok (.lstore_n 3, 1) := by decide +kernel
theorem dX3_mixEnds_2 : decode cX3_mixEnds 2 = .ok (.iconst 0, 1) := by decide +kernel
theorem dX3_mixEnds_3 : decode cX3_mixEnds 3 = .ok (.istore 5, 2) := by decide +kernel
theorem dX3_mixEnds_5 : decode cX3_mixEnds 5 = .ok (.iload 5, 2) := by decide +kernel
theorem dX3_mixEnds_7 : decode cX3_mixEnds 7 = .ok (.bipush 40, 2) := by decide +kernel
theorem dX3_mixEnds_9 : decode cX3_mixEnds 9 = .ok (.if_icmp .ge 98, 3) := by decide +kernel
theorem dX3_mixEnds_12 : decode cX3_mixEnds 12 = .ok (.aload_n 0, 1) := by decide +kernel
theorem dX3_mixEnds_13 : decode cX3_mixEnds 13 = .ok (.getfield 12, 3) := by decide +kernel
theorem dX3_mixEnds_16 : decode cX3_mixEnds 16 = .ok (.getfield 123, 3) := by decide +kernel
theorem dX3_mixEnds_19 : decode cX3_mixEnds 19 = .ok (.iload 5, 2) := by decide +kernel
theorem dX3_mixEnds_21 : decode cX3_mixEnds 21 = .ok (.invokevirtual 127, 3) := by decide +kernel
theorem dX3_mixEnds_24 : decode cX3_mixEnds 24 = .ok (.istore 6, 2) := by decide +kernel
theorem dX3_mixEnds_26 : decode cX3_mixEnds 26 = .ok (.iload 6, 2) := by decide +kernel
theorem dX3_mixEnds_28 : decode cX3_mixEnds 28 = .ok (.ifCond .le 73, 3) := by decide +kernel
theorem dX3_mixEnds_31 : decode cX3_mixEnds 31 = .ok (.aload_n 0, 1) := by decide +kernel
theorem dX3_mixEnds_32 : decode cX3_mixEnds 32 = .ok (.getfield 12, 3) := by decide +kernel
theorem dX3_mixEnds_35 : decode cX3_mixEnds 35 = .ok (.getfield 123, 3) := by decide +kernel
theorem dX3_mixEnds_38 : decode cX3_mixEnds 38 = .ok (.iload 5, 2) := by decide +kernel
theorem dX3_mixEnds_40 : decode cX3_mixEnds 40 = .ok (.invokevirtual 132, 3) := by decide +kernel
theorem dX3_mixEnds_43 : decode cX3_mixEnds 43 = .ok (.lstore 7, 2) := by decide +kernel
theorem dX3_mixEnds_45 : decode cX3_mixEnds 45 = .ok (.lload 7, 2) := by decide +kernel
theorem dX3_mixEnds_47 : decode cX3_mixEnds 47 = .ok (.invokestatic 135, 3) := by decide +kernel
theorem dX3_mixEnds_50 : decode cX3_mixEnds 50 = .ok (.istore 9, 2) := by decide +kernel
theorem dX3_mixEnds_52 : decode cX3_mixEnds 52 = .ok (.lload_n 3, 1) := by decide +kernel
theorem dX3_mixEnds_53 : decode cX3_mixEnds 53 = .ok (.iload 5, 2) := by decide +kernel
theorem dX3_mixEnds_55 : decode cX3_mixEnds 55 = .ok (.i2l, 1) := by decide +kernel
theorem dX3_mixEnds_56 : decode cX3_mixEnds 56 = .ok (.invokestatic 180, 3) := by decide +kernel
theorem dX3_mixEnds_59 : decode cX3_mixEnds 59 = .ok (.iload 6, 2) := by decide +kernel
theorem dX3_mixEnds_61 : decode cX3_mixEnds 61 = .ok (.i2l, 1) := by decide +kernel
theorem dX3_mixEnds_62 : decode cX3_mixEnds 62 = .ok (.invokestatic 180, 3) := by decide +kernel
theorem dX3_mixEnds_65 : decode cX3_mixEnds 65 = .ok (.iload 9, 2) := by decide +kernel
theorem dX3_mixEnds_67 : decode cX3_mixEnds 67 = .ok (.i2l, 1) := by decide +kernel
theorem dX3_mixEnds_68 : decode cX3_mixEnds 68 = .ok (.invokestatic 180, 3) := by decide +kernel
theorem dX3_mixEnds_71 : decode cX3_mixEnds 71 = .ok (.lstore_n 3, 1) := by decide +kernel
theorem dX3_mixEnds_72 : decode cX3_mixEnds 72 = .ok (.iconst 0, 1) := by decide +kernel
theorem dX3_mixEnds_73 : decode cX3_mixEnds 73 = .ok (.istore 10, 2) := by decide +kernel
theorem dX3_mixEnds_75 : decode cX3_mixEnds 75 = .ok (.iload 10, 2) := by decide +kernel
theorem dX3_mixEnds_77 : decode cX3_mixEnds 77 = .ok (.iload 9, 2) := by decide +kernel
theorem dX3_mixEnds_79 : decode cX3_mixEnds 79 = .ok (.if_icmp .ge 22, 3) := by decide +kernel
theorem dX3_mixEnds_82 : decode cX3_mixEnds 82 = .ok (.lload_n 3, 1) := by decide +kernel
theorem dX3_mixEnds_83 : decode cX3_mixEnds 83 = .ok (.lload 7, 2) := by decide +kernel
theorem dX3_mixEnds_85 : decode cX3_mixEnds 85 = .ok (.iload 10, 2) := by decide +kernel
theorem dX3_mixEnds_87 : decode cX3_mixEnds 87 = .ok (.invokestatic 54, 3) := by decide +kernel
theorem dX3_mixEnds_90 : decode cX3_mixEnds 90 = .ok (.i2l, 1) := by decide +kernel
theorem dX3_mixEnds_91 : decode cX3_mixEnds 91 = .ok (.invokestatic 180, 3) := by decide +kernel
theorem dX3_mixEnds_94 : decode cX3_mixEnds 94 = .ok (.lstore_n 3, 1) := by decide +kernel
theorem dX3_mixEnds_95 : decode cX3_mixEnds 95 = .ok (.iinc 10 1, 3) := by decide +kernel
theorem dX3_mixEnds_98 : decode cX3_mixEnds 98 = .ok (.goto (-23), 3) := by decide +kernel
theorem dX3_mixEnds_101 : decode cX3_mixEnds 101 = .ok (.iinc 5 1, 3) := by decide +kernel
theorem dX3_mixEnds_104 : decode cX3_mixEnds 104 = .ok (.goto (-99), 3) := by decide +kernel
theorem dX3_mixEnds_107 : decode cX3_mixEnds 107 = .ok (.lload_n 3, 1) := by decide +kernel
theorem dX3_mixEnds_108 : decode cX3_mixEnds 108 = .ok (.lreturn, 1) := by decide +kernel
theorem dX3_mix_0 : decode cX3_mix 0 = .ok (.ldc2_w 214, 3) := by decide +kernel
theorem dX3_mix_3 : decode cX3_mix 3 = .ok (.lload_n 0, 1) := by decide +kernel
theorem dX3_mix_4 : decode cX3_mix 4 = .ok (.lmul, 1) := by decide +kernel
theorem dX3_mix_5 : decode cX3_mix 5 = .ok (.lload_n 2, 1) := by decide +kernel
theorem dX3_mix_6 : decode cX3_mix 6 = .ok (.ladd, 1) := by decide +kernel
theorem dX3_mix_7 : decode cX3_mix 7 = .ok (.lreturn, 1) := by decide +kernel
theorem dX3_bitsOf_0 : decode cX3_bitsOf 0 = .ok (.dload_n 0, 1) := by decide +kernel
theorem dX3_bitsOf_1 : decode cX3_bitsOf 1 = .ok (.dstore_n 2, 1) := by decide +kernel
theorem dX3_bitsOf_2 : decode cX3_bitsOf 2 = .ok (.ldc2_w 216, 3) := by decide +kernel
theorem dX3_bitsOf_5 : decode cX3_bitsOf 5 = .ok (.lstore 4, 2) := by decide +kernel
theorem dX3_bitsOf_7 : decode cX3_bitsOf 7 = .ok (.iconst 0, 1) := by decide +kernel
theorem dX3_bitsOf_8 : decode cX3_bitsOf 8 = .ok (.istore 6, 2) := by decide +kernel
theorem dX3_bitsOf_10 : decode cX3_bitsOf 10 = .ok (.iload 6, 2) := by decide +kernel
theorem dX3_bitsOf_12 : decode cX3_bitsOf 12 = .ok (.sipush 1023, 3) := by decide +kernel
theorem dX3_bitsOf_15 : decode cX3_bitsOf 15 = .ok (.if_icmp .ge 27, 3) := by decide +kernel
theorem dX3_bitsOf_18 : decode cX3_bitsOf 18 = .ok (.dload_n 2, 1) := by decide +kernel
theorem dX3_bitsOf_19 : decode cX3_bitsOf 19 = .ok (.dconst 1, 1) := by decide +kernel
theorem dX3_bitsOf_20 : decode cX3_bitsOf 20 = .ok (.dcmp .g, 1) := by decide +kernel
theorem dX3_bitsOf_21 : decode cX3_bitsOf 21 = .ok (.ifCond .ge 21, 3) := by decide +kernel
theorem dX3_bitsOf_24 : decode cX3_bitsOf 24 = .ok (.dload_n 2, 1) := by decide +kernel
theorem dX3_bitsOf_25 : decode cX3_bitsOf 25 = .ok (.ldc2_w 218, 3) := by decide +kernel
theorem dX3_bitsOf_28 : decode cX3_bitsOf 28 = .ok (.dmul, 1) := by decide +kernel
theorem dX3_bitsOf_29 : decode cX3_bitsOf 29 = .ok (.dstore_n 2, 1) := by decide +kernel
theorem dX3_bitsOf_30 : decode cX3_bitsOf 30 = .ok (.lload 4, 2) := by decide +kernel
theorem dX3_bitsOf_32 : decode cX3_bitsOf 32 = .ok (.lconst 1, 1) := by decide +kernel
theorem dX3_bitsOf_33 : decode cX3_bitsOf 33 = .ok (.lsub, 1) := by decide +kernel
theorem dX3_bitsOf_34 : decode cX3_bitsOf 34 = .ok (.lstore 4, 2) := by decide +kernel
theorem dX3_bitsOf_36 : decode cX3_bitsOf 36 = .ok (.iinc 6 1, 3) := by decide +kernel
theorem dX3_bitsOf_39 : decode cX3_bitsOf 39 = .ok (.goto (-29), 3) := by decide +kernel
theorem dX3_bitsOf_42 : decode cX3_bitsOf 42 = .ok (.dload_n 2, 1) := by decide +kernel
theorem dX3_bitsOf_43 : decode cX3_bitsOf 43 = .ok (.dconst 1, 1) := by decide +kernel
theorem dX3_bitsOf_44 : decode cX3_bitsOf 44 = .ok (.dsub, 1) := by decide +kernel
theorem dX3_bitsOf_45 : decode cX3_bitsOf 45 = .ok (.ldc2_w 220, 3) := by decide +kernel
theorem dX3_bitsOf_48 : decode cX3_bitsOf 48 = .ok (.dmul, 1) := by decide +kernel
theorem dX3_bitsOf_49 : decode cX3_bitsOf 49 = .ok (.d2l, 1) := by decide +kernel
theorem dX3_bitsOf_50 : decode cX3_bitsOf 50 = .ok (.lstore 6, 2) := by decide +kernel
theorem dX3_bitsOf_52 : decode cX3_bitsOf 52 = .ok (.lload 4, 2) := by decide +kernel
theorem dX3_bitsOf_54 : decode cX3_bitsOf 54 = .ok (.bipush 52, 2) := by decide +kernel
theorem dX3_bitsOf_56 : decode cX3_bitsOf 56 = .ok (.lshl, 1) := by decide +kernel
theorem dX3_bitsOf_57 : decode cX3_bitsOf 57 = .ok (.lload 6, 2) := by decide +kernel
theorem dX3_bitsOf_59 : decode cX3_bitsOf 59 = .ok (.ladd, 1) := by decide +kernel
theorem dX3_bitsOf_60 : decode cX3_bitsOf 60 = .ok (.lreturn, 1) := by decide +kernel
set_option maxRecDepth 20000 in
theorem ggX3_tryToAdd_X1_leafOf : GoodIn wsX3_tryToAdd wsX1_leafOf := goodIn_r _ [9, 10, 11, 12, 13, 14, 15, 16, 8, 17, 18, 19, 20, 21, 22, 23, 24, 25, 26, 27, 28, 29, 30, 31, 32, 33, 34, 35, 36, 37, 38, 39, 148, 149, 150, 151, 152, 153, 154, 155, 156, 157, 158] (by decide +kernel) (by decide +kernel)
set_option maxRecDepth 20000 in
theorem gX3_tryToAdd_X1_leafOf : GoodIn wsX3_tryToAdd (wsV RX3 77 RX1 yX1_leafOf wsX1_leafOf) := goodIn_app (goodIn_of _ (by decide +kernel)) ggX3_tryToAdd_X1_leafOf
set_option maxRecDepth 20000 in
theorem ggX3_tryToAdd_X1_copyFrom : GoodIn wsX3_tryToAdd wsX1_copyFrom := goodIn_r _ [43, 10, 44, 45, 36, 19, 35, 46, 18, 47, 48, 12, 49, 50, 51, 52, 53, 54, 55, 56, 57, 58, 59, 60, 23, 61, 62, 25, 63, 64, 148, 149, 150, 151, 152, 153, 154, 155, 156, 157, 158] (by decide +kernel) (by decide +kernel)
set_option maxRecDepth 20000 in
theorem gX3_tryToAdd_X1_copyFrom : GoodIn wsX3_tryToAdd (wsV RX3 73 RX1 yX1_copyFrom wsX1_copyFrom) := goodIn_app (goodIn_of _ (by decide +kernel)) ggX3_tryToAdd_X1_copyFrom
set_option maxRecDepth 20000 in
theorem ggX3_tryToAdd_X1_insert : GoodIn wsX3_tryToAdd wsX1_insert := goodIn_r _ [68, 10, 11, 12, 13, 69, 70, 71, 8, 72, 18, 19, 20, 21, 22, 23, 24, 25, 73, 74, 75, 76, 62, 77, 78, 26, 27, 28, 29, 30, 79, 80, 81, 82, 36, 83, 84, 85, 86, 87, 88, 89, 90, 44, 45, 46, 35, 37, 38, 39, 91, 92, 93, 94, 95, 96, 97, 98, 99, 100, 101, 102, 103, 104, 105, 106, 31, 32, 33, 34, 107, 108, 109, 110, 111, 112, 113, 114, 115, 116, 117, 118, 119, 120, 121, 122, 123, 124, 125, 47, 126, 127, 128, 129, 130, 131, 132, 133, 134, 135, 136, 137, 138, 139, 140, 141, 148, 149, 150, 151, 152, 153, 154, 155, 156, 157, 158] (by decide +kernel) (by decide +kernel)
set_option maxRecDepth 20000 in
theorem gX3_tryToAdd_X1_insert : GoodIn wsX3_tryToAdd (wsV RX3 222 RX1 yX1_insert wsX1_insert) := goodIn_app (goodIn_of _ (by decide +kernel)) ggX3_tryToAdd_X1_insert
theorem dX3_tryToAdd_0 : decode cX3_tryToAdd 0 = .ok (.aload_n 0, 1) := by decide +kernel
theorem dX3_tryToAdd_1 : decode cX3_tryToAdd 1 = .ok (.getfield 31, 3) := by decide +kernel
theorem dX3_tryToAdd_4 : decode cX3_tryToAdd 4 = .ok (.ifCond .ne 5, 3) := by decide +kernel
theorem dX3_tryToAdd_7 : decode cX3_tryToAdd 7 = .ok (.iconst 3, 1) := by decide +kernel
theorem dX3_tryToAdd_8 : decode cX3_tryToAdd 8 = .ok (.ireturn, 1) := by decide +kernel
theorem dX3_tryToAdd_9 : decode cX3_tryToAdd 9 = .ok (.aload_n 0, 1) := by decide +kernel
theorem dX3_tryToAdd_10 : decode cX3_tryToAdd 10 = .ok (.getfield 12, 3) := by decide +kernel
theorem dX3_tryToAdd_13 : decode cX3_tryToAdd 13 = .ok (.aload_n 0, 1) := by decide +kernel
theorem dX3_tryToAdd_14 : decode cX3_tryToAdd 14 = .ok (.getfield 27, 3) := by decide +kernel
theorem dX3_tryToAdd_17 : decode cX3_tryToAdd 17 = .ok (.invokevirtual 77, 3) := by decide +kernel
theorem dX3_tryToAdd_20 : decode cX3_tryToAdd 20 = .ok (.iconst (-1), 1) := by decide +kernel
theorem dX3_tryToAdd_21 : decode cX3_tryToAdd 21 = .ok (.if_icmp .eq 5, 3) := by decide +kernel
theorem dX3_tryToAdd_24 : decode cX3_tryToAdd 24 = .ok (.iconst 1, 1) := by decide +kernel
theorem dX3_tryToAdd_25 : decode cX3_tryToAdd 25 = .ok (.ireturn, 1) := by decide +kernel
theorem dX3_tryToAdd_26 : decode cX3_tryToAdd 26 = .ok (.aload_n 0, 1) := by decide +kernel
theorem dX3_tryToAdd_27 : decode cX3_tryToAdd 27 = .ok (.getfield 16, 3) := by decide +kernel
theorem dX3_tryToAdd_30 : decode cX3_tryToAdd 30 = .ok (.aload_n 0, 1) := by decide +kernel
theorem dX3_tryToAdd_31 : decode cX3_tryToAdd 31 = .ok (.getfield 12, 3) := by decide +kernel
theorem dX3_tryToAdd_34 : decode cX3_tryToAdd 34 = .ok (.invokevirtual 73, 3) := by decide +kernel
theorem dX3_tryToAdd_37 : decode cX3_tryToAdd 37 = .ok (.aload_n 0, 1) := by decide +kernel
theorem dX3_tryToAdd_38 : decode cX3_tryToAdd 38 = .ok (.getfield 16, 3) := by decide +kernel
theorem dX3_tryToAdd_41 : decode cX3_tryToAdd 41 = .ok (.aload_n 0, 1) := by decide +kernel
theorem dX3_tryToAdd_42 : decode cX3_tryToAdd 42 = .ok (.getfield 27, 3) := by decide +kernel
theorem dX3_tryToAdd_45 : decode cX3_tryToAdd 45 = .ok (.invokevirtual 222, 3) := by decide +kernel
theorem dX3_tryToAdd_48 : decode cX3_tryToAdd 48 = .ok (.iconst (-1), 1) := by decide +kernel
theorem dX3_tryToAdd_49 : decode cX3_tryToAdd 49 = .ok (.if_icmp .ne 7, 3) := by decide +kernel
theorem dX3_tryToAdd_52 : decode cX3_tryToAdd 52 = .ok (.iconst 2, 1) := by decide +kernel
theorem dX3_tryToAdd_53 : decode cX3_tryToAdd 53 = .ok (.goto 4, 3) := by decide +kernel
theorem dX3_tryToAdd_56 : decode cX3_tryToAdd 56 = .ok (.iconst 0, 1) := by decide +kernel
theorem dX3_tryToAdd_57 : decode cX3_tryToAdd 57 = .ok (.ireturn, 1) := by decide +kernel
set_option maxRecDepth 20000 in
theorem ggX3_costOfTrial_X1_usedCells : GoodIn wsX3_costOfTrial wsX1_usedCells := goodIn_r _ [9, 10, 23, 24, 25, 26, 27, 28, 29, 30, 31] (by decide +kernel) (by decide +kernel)
set_option maxRecDepth 20000 in
theorem gX3_costOfTrial_X1_usedCells : GoodIn wsX3_costOfTrial (wsV RX3 103 RX1 yX1_usedCells wsX1_usedCells) := goodIn_app (goodIn_of _ (by decide +kernel)) ggX3_costOfTrial_X1_usedCells
set_option maxRecDepth 20000 in
theorem ggX3_costOfTrial_X0_kept : GoodIn wsX3_costOfTrial wsX0_kept := goodIn_r _ [15, 16, 32, 33] (by decide +kernel) (by decide +kernel)
set_option maxRecDepth 20000 in
theorem gX3_costOfTrial_X0_kept : GoodIn wsX3_costOfTrial (wsV RX3 146 RX0 yX0_kept wsX0_kept) := goodIn_app (goodIn_of _ (by decide +kernel)) ggX3_costOfTrial_X0_kept
theorem dX3_costOfTrial_0 : decode cX3_costOfTrial 0 = .ok (.iload_n 2, 1) := by decide +kernel
theorem dX3_costOfTrial_1 : decode cX3_costOfTrial 1 = .ok (.ifCond .ne 5, 3) := by decide +kernel
theorem dX3_costOfTrial_4 : decode cX3_costOfTrial 4 = .ok (.iload_n 1, 1) := by decide +kernel
theorem dX3_costOfTrial_5 : decode cX3_costOfTrial 5 = .ok (.ireturn, 1) := by decide +kernel
theorem dX3_costOfTrial_6 : decode cX3_costOfTrial 6 = .ok (.iload_n 1, 1) := by decide +kernel
theorem dX3_costOfTrial_7 : decode cX3_costOfTrial 7 = .ok (.ifCond .eq 5, 3) := by decide +kernel
theorem dX3_costOfTrial_10 : decode cX3_costOfTrial 10 = .ok (.iconst (-1), 1) := by decide +kernel
theorem dX3_costOfTrial_11 : decode cX3_costOfTrial 11 = .ok (.ireturn, 1) := by decide +kernel
theorem dX3_costOfTrial_12 : decode cX3_costOfTrial 12 = .ok (.iload_n 2, 1) := by decide +kernel
theorem dX3_costOfTrial_13 : decode cX3_costOfTrial 13 = .ok (.iconst 1, 1) := by decide +kernel
theorem dX3_costOfTrial_14 : decode cX3_costOfTrial 14 = .ok (.if_icmp .ne 19, 3) := by decide +kernel
theorem dX3_costOfTrial_17 : decode cX3_costOfTrial 17 = .ok (.aload_n 0, 1) := by decide +kernel
theorem dX3_costOfTrial_18 : decode cX3_costOfTrial 18 = .ok (.getfield 16, 3) := by decide +kernel
theorem dX3_costOfTrial_21 : decode cX3_costOfTrial 21 = .ok (.invokevirtual 103, 3) := by decide +kernel
theorem dX3_costOfTrial_24 : decode cX3_costOfTrial 24 = .ok (.aload_n 0, 1) := by decide +kernel
theorem dX3_costOfTrial_25 : decode cX3_costOfTrial 25 = .ok (.getfield 12, 3) := by decide +kernel
theorem dX3_costOfTrial_28 : decode cX3_costOfTrial 28 = .ok (.invokevirtual 103, 3) := by decide +kernel
theorem dX3_costOfTrial_31 : decode cX3_costOfTrial 31 = .ok (.isub, 1) := by decide +kernel
theorem dX3_costOfTrial_32 : decode cX3_costOfTrial 32 = .ok (.ireturn, 1) := by decide +kernel
theorem dX3_costOfTrial_33 : decode cX3_costOfTrial 33 = .ok (.iload_n 2, 1) := by decide +kernel
theorem dX3_costOfTrial_34 : decode cX3_costOfTrial 34 = .ok (.iconst 2, 1) := by decide +kernel
theorem dX3_costOfTrial_35 : decode cX3_costOfTrial 35 = .ok (.if_icmp .ne 19, 3) := by decide +kernel
theorem dX3_costOfTrial_38 : decode cX3_costOfTrial 38 = .ok (.aload_n 0, 1) := by decide +kernel
theorem dX3_costOfTrial_39 : decode cX3_costOfTrial 39 = .ok (.getfield 16, 3) := by decide +kernel
theorem dX3_costOfTrial_42 : decode cX3_costOfTrial 42 = .ok (.getfield 152, 3) := by decide +kernel
theorem dX3_costOfTrial_45 : decode cX3_costOfTrial 45 = .ok (.aload_n 0, 1) := by decide +kernel
theorem dX3_costOfTrial_46 : decode cX3_costOfTrial 46 = .ok (.getfield 12, 3) := by decide +kernel
theorem dX3_costOfTrial_49 : decode cX3_costOfTrial 49 = .ok (.getfield 152, 3) := by decide +kernel
theorem dX3_costOfTrial_52 : decode cX3_costOfTrial 52 = .ok (.isub, 1) := by decide +kernel
theorem dX3_costOfTrial_53 : decode cX3_costOfTrial 53 = .ok (.ireturn, 1) := by decide +kernel
theorem dX3_costOfTrial_54 : decode cX3_costOfTrial 54 = .ok (.aload_n 0, 1) := by decide +kernel
theorem dX3_costOfTrial_55 : decode cX3_costOfTrial 55 = .ok (.getfield 16, 3) := by decide +kernel
theorem dX3_costOfTrial_58 : decode cX3_costOfTrial 58 = .ok (.getfield 123, 3) := by decide +kernel
theorem dX3_costOfTrial_61 : decode cX3_costOfTrial 61 = .ok (.invokevirtual 146, 3) := by decide +kernel
theorem dX3_costOfTrial_64 : decode cX3_costOfTrial 64 = .ok (.aload_n 0, 1) := by decide +kernel
theorem dX3_costOfTrial_65 : decode cX3_costOfTrial 65 = .ok (.getfield 12, 3) := by decide +kernel
theorem dX3_costOfTrial_68 : decode cX3_costOfTrial 68 = .ok (.getfield 123, 3) := by decide +kernel
theorem dX3_costOfTrial_71 : decode cX3_costOfTrial 71 = .ok (.invokevirtual 146, 3) := by decide +kernel
theorem dX3_costOfTrial_74 : decode cX3_costOfTrial 74 = .ok (.isub, 1) := by decide +kernel
theorem dX3_costOfTrial_75 : decode cX3_costOfTrial 75 = .ok (.bipush 100, 2) := by decide +kernel
theorem dX3_costOfTrial_77 : decode cX3_costOfTrial 77 = .ok (.iadd, 1) := by decide +kernel
theorem dX3_costOfTrial_78 : decode cX3_costOfTrial 78 = .ok (.ireturn, 1) := by decide +kernel
set_option maxRecDepth 20000 in
theorem ggX3_saveState_X3_dropOldestState : GoodIn wsX3_saveState wsX3_dropOldestState := goodIn_r _ [8, 2, 1, 42, 43, 44, 45, 46, 47] (by decide +kernel) (by decide +kernel)
set_option maxRecDepth 20000 in
theorem gX3_saveState_X3_dropOldestState : GoodIn wsX3_saveState (wsV RX3 225 RX3 yX3_dropOldestState wsX3_dropOldestState) := goodIn_app (goodIn_of _ (by decide +kernel)) ggX3_saveState_X3_dropOldestState
set_option maxRecDepth 20000 in
theorem ggX3_saveState_X1_copyFrom : GoodIn wsX3_saveState wsX1_copyFrom := goodIn_r _ [13, 14, 15, 16, 17, 18, 19, 20, 21, 22, 23, 7, 24, 25, 26, 27, 28, 29, 30, 31, 32, 33, 34, 35, 36, 37, 38, 39, 40, 41, 48, 49, 50, 51, 52, 53, 54, 55, 56, 57, 58] (by decide +kernel) (by decide +kernel)
set_option maxRecDepth 20000 in
theorem gX3_saveState_X1_copyFrom : GoodIn wsX3_saveState (wsV RX3 73 RX1 yX1_copyFrom wsX1_copyFrom) := goodIn_app (goodIn_of _ (by decide +kernel)) ggX3_saveState_X1_copyFrom
theorem dX3_saveState_0 : decode cX3_saveState 0 = .ok (.aload_n 0, 1) := by decide +kernel
theorem dX3_saveState_1 : decode cX3_saveState 1 = .ok (.getfield 23, 3) := by decide +kernel
theorem dX3_saveState_4 : decode cX3_saveState 4 = .ok (.aload_n 0, 1) := by decide +kernel
theorem dX3_saveState_5 : decode cX3_saveState 5 = .ok (.getfield 19, 3) := by decide +kernel
theorem dX3_saveState_8 : decode cX3_saveState 8 = .ok (.arraylength, 1) := by decide +kernel
theorem dX3_saveState_9 : decode cX3_saveState 9 = .ok (.if_icmp .lt 7, 3) := by decide +kernel
theorem dX3_saveState_12 : decode cX3_saveState 12 = .ok (.aload_n 0, 1) := by decide +kernel
theorem dX3_saveState_13 : decode cX3_saveState 13 = .ok (.invokevirtual 225, 3) := by decide +kernel
theorem dX3_saveState_16 : decode cX3_saveState 16 = .ok (.aload_n 0, 1) := by decide +kernel
theorem dX3_saveState_17 : decode cX3_saveState 17 = .ok (.getfield 23, 3) := by decide +kernel
theorem dX3_saveState_20 : decode cX3_saveState 20 = .ok (.ifCond .lt 47, 3) := by decide +kernel
theorem dX3_saveState_23 : decode cX3_saveState 23 = .ok (.aload_n 0, 1) := by decide +kernel
theorem dX3_saveState_24 : decode cX3_saveState 24 = .ok (.getfield 23, 3) := by decide +kernel
theorem dX3_saveState_27 : decode cX3_saveState 27 = .ok (.aload_n 0, 1) := by decide +kernel
theorem dX3_saveState_28 : decode cX3_saveState 28 = .ok (.getfield 19, 3) := by decide +kernel
theorem dX3_saveState_31 : decode cX3_saveState 31 = .ok (.arraylength, 1) := by decide +kernel
theorem dX3_saveState_32 : decode cX3_saveState 32 = .ok (.if_icmp .ge 35, 3) := by decide +kernel
theorem dX3_saveState_35 : decode cX3_saveState 35 = .ok (.aload_n 0, 1) := by decide +kernel
theorem dX3_saveState_36 : decode cX3_saveState 36 = .ok (.getfield 19, 3) := by decide +kernel
theorem dX3_saveState_39 : decode cX3_saveState 39 = .ok (.aload_n 0, 1) := by decide +kernel
theorem dX3_saveState_40 : decode cX3_saveState 40 = .ok (.getfield 23, 3) := by decide +kernel
theorem dX3_saveState_43 : decode cX3_saveState 43 = .ok (.aaload, 1) := by decide +kernel
theorem dX3_saveState_44 : decode cX3_saveState 44 = .ok (.astore_n 1, 1) := by decide +kernel
theorem dX3_saveState_45 : decode cX3_saveState 45 = .ok (.aload_n 1, 1) := by decide +kernel
theorem dX3_saveState_46 : decode cX3_saveState 46 = .ok (.ifnull 21, 3) := by decide +kernel
theorem dX3_saveState_49 : decode cX3_saveState 49 = .ok (.aload_n 1, 1) := by decide +kernel
theorem dX3_saveState_50 : decode cX3_saveState 50 = .ok (.aload_n 0, 1) := by decide +kernel
theorem dX3_saveState_51 : decode cX3_saveState 51 = .ok (.getfield 12, 3) := by decide +kernel
theorem dX3_saveState_54 : decode cX3_saveState 54 = .ok (.invokevirtual 73, 3) := by decide +kernel
theorem dX3_saveState_57 : decode cX3_saveState 57 = .ok (.aload_n 0, 1) := by decide +kernel
theorem dX3_saveState_58 : decode cX3_saveState 58 = .ok (.dup, 1) := by decide +kernel
theorem dX3_saveState_59 : decode cX3_saveState 59 = .ok (.getfield 23, 3) := by decide +kernel
theorem dX3_saveState_62 : decode cX3_saveState 62 = .ok (.iconst 1, 1) := by decide +kernel
theorem dX3_saveState_63 : decode cX3_saveState 63 = .ok (.iadd, 1) := by decide +kernel
theorem dX3_saveState_64 : decode cX3_saveState 64 = .ok (.putfield 23, 3) := by decide +kernel
theorem dX3_saveState_67 : decode cX3_saveState 67 = .ok (.return_, 1) := by decide +kernel
theorem dX3_dropOldestState_0 : decode cX3_dropOldestState 0 = .ok (.aload_n 0, 1) := by decide +kernel
theorem dX3_dropOldestState_1 : decode cX3_dropOldestState 1 = .ok (.getfield 19, 3) := by decide +kernel
theorem dX3_dropOldestState_4 : decode cX3_dropOldestState 4 = .ok (.arraylength, 1) := by decide +kernel
theorem dX3_dropOldestState_5 : decode cX3_dropOldestState 5 = .ok (.ifCond .ne 4, 3) := by decide +kernel
theorem dX3_dropOldestState_8 : decode cX3_dropOldestState 8 = .ok (.return_, 1) := by decide +kernel
theorem dX3_dropOldestState_9 : decode cX3_dropOldestState 9 = .ok (.aload_n 0, 1) := by decide +kernel
theorem dX3_dropOldestState_10 : decode cX3_dropOldestState 10 = .ok (.getfield 19, 3) := by decide +kernel
theorem dX3_dropOldestState_13 : decode cX3_dropOldestState 13 = .ok (.iconst 0, 1) := by decide +kernel
theorem dX3_dropOldestState_14 : decode cX3_dropOldestState 14 = .ok (.aaload, 1) := by decide +kernel
theorem dX3_dropOldestState_15 : decode cX3_dropOldestState 15 = .ok (.astore_n 1, 1) := by decide +kernel
theorem dX3_dropOldestState_16 : decode cX3_dropOldestState 16 = .ok (.iconst 1, 1) := by decide +kernel
theorem dX3_dropOldestState_17 : decode cX3_dropOldestState 17 = .ok (.istore_n 2, 1) := by decide +kernel
theorem dX3_dropOldestState_18 : decode cX3_dropOldestState 18 = .ok (.iload_n 2, 1) := by decide +kernel
theorem dX3_dropOldestState_19 : decode cX3_dropOldestState 19 = .ok (.aload_n 0, 1) := by decide +kernel
theorem dX3_dropOldestState_20 : decode cX3_dropOldestState 20 = .ok (.getfield 19, 3) := by decide +kernel
theorem dX3_dropOldestState_23 : decode cX3_dropOldestState 23 = .ok (.arraylength, 1) := by decide +kernel
theorem dX3_dropOldestState_24 : decode cX3_dropOldestState 24 = .ok (.if_icmp .ge 23, 3) := by decide +kernel
theorem dX3_dropOldestState_27 : decode cX3_dropOldestState 27 = .ok (.aload_n 0, 1) := by decide +kernel
theorem dX3_dropOldestState_28 : decode cX3_dropOldestState 28 = .ok (.getfield 19, 3) := by decide +kernel
theorem dX3_dropOldestState_31 : decode cX3_dropOldestState 31 = .ok (.iload_n 2, 1) := by decide +kernel
theorem dX3_dropOldestState_32 : decode cX3_dropOldestState 32 = .ok (.iconst 1, 1) := by decide +kernel
theorem dX3_dropOldestState_33 : decode cX3_dropOldestState 33 = .ok (.isub, 1) := by decide +kernel
theorem dX3_dropOldestState_34 : decode cX3_dropOldestState 34 = .ok (.aload_n 0, 1) := by decide +kernel
theorem dX3_dropOldestState_35 : decode cX3_dropOldestState 35 = .ok (.getfield 19, 3) := by decide +kernel
theorem dX3_dropOldestState_38 : decode cX3_dropOldestState 38 = .ok (.iload_n 2, 1) := by decide +kernel
theorem dX3_dropOldestState_39 : decode cX3_dropOldestState 39 = .ok (.aaload, 1) := by decide +kernel
theorem dX3_dropOldestState_40 : decode cX3_dropOldestState 40 = .ok (.aastore, 1) := by decide +kernel
theorem dX3_dropOldestState_41 : decode cX3_dropOldestState 41 = .ok (.iinc 2 1, 3) := by decide +kernel
theorem dX3_dropOldestState_44 : decode cX3_dropOldestState 44 = .ok (.goto (-26), 3) := by decide +kernel
theorem dX3_dropOldestState_47 : decode cX3_dropOldestState 47 = .ok (.aload_n 0, 1) := by decide +kernel
theorem dX3_dropOldestState_48 : decode cX3_dropOldestState 48 = .ok (.getfield 19, 3) := by decide +kernel
theorem dX3_dropOldestState_51 : decode cX3_dropOldestState 51 = .ok (.aload_n 0, 1) := by decide +kernel
theorem dX3_dropOldestState_52 : decode cX3_dropOldestState 52 = .ok (.getfield 19, 3) := by decide +kernel
theorem dX3_dropOldestState_55 : decode cX3_dropOldestState 55 = .ok (.arraylength, 1) := by decide +kernel
theorem dX3_dropOldestState_56 : decode cX3_dropOldestState 56 = .ok (.iconst 1, 1) := by decide +kernel
theorem dX3_dropOldestState_57 : decode cX3_dropOldestState 57 = .ok (.isub, 1) := by decide +kernel
theorem dX3_dropOldestState_58 : decode cX3_dropOldestState 58 = .ok (.aload_n 1, 1) := by decide +kernel
theorem dX3_dropOldestState_59 : decode cX3_dropOldestState 59 = .ok (.aastore, 1) := by decide +kernel
theorem dX3_dropOldestState_60 : decode cX3_dropOldestState 60 = .ok (.aload_n 0, 1) := by decide +kernel
theorem dX3_dropOldestState_61 : decode cX3_dropOldestState 61 = .ok (.dup, 1) := by decide +kernel
theorem dX3_dropOldestState_62 : decode cX3_dropOldestState 62 = .ok (.getfield 23, 3) := by decide +kernel
theorem dX3_dropOldestState_65 : decode cX3_dropOldestState 65 = .ok (.iconst 1, 1) := by decide +kernel
theorem dX3_dropOldestState_66 : decode cX3_dropOldestState 66 = .ok (.isub, 1) := by decide +kernel
theorem dX3_dropOldestState_67 : decode cX3_dropOldestState 67 = .ok (.putfield 23, 3) := by decide +kernel
theorem dX3_dropOldestState_70 : decode cX3_dropOldestState 70 = .ok (.return_, 1) := by decide +kernel
theorem dX3_at_0 : decode cX3_at 0 = .ok (.iload_n 1, 1) := by decide +kernel
theorem dX3_at_1 : decode cX3_at 1 = .ok (.ifCond .lt 15, 3) := by decide +kernel
theorem dX3_at_4 : decode cX3_at 4 = .ok (.iload_n 1, 1) := by decide +kernel
theorem dX3_at_5 : decode cX3_at 5 = .ok (.aload_n 0, 1) := by decide +kernel
theorem dX3_at_6 : decode cX3_at 6 = .ok (.arraylength, 1) := by decide +kernel
theorem dX3_at_7 : decode cX3_at 7 = .ok (.if_icmp .ge 9, 3) := by decide +kernel
theorem dX3_at_10 : decode cX3_at 10 = .ok (.aload_n 0, 1) := by decide +kernel
theorem dX3_at_11 : decode cX3_at 11 = .ok (.iload_n 1, 1) := by decide +kernel
theorem dX3_at_12 : decode cX3_at 12 = .ok (.iaload, 1) := by decide +kernel
theorem dX3_at_13 : decode cX3_at 13 = .ok (.goto 4, 3) := by decide +kernel
theorem dX3_at_16 : decode cX3_at 16 = .ok (.iconst (-1), 1) := by decide +kernel
theorem dX3_at_17 : decode cX3_at 17 = .ok (.ireturn, 1) := by decide +kernel
theorem dX3_put_0 : decode cX3_put 0 = .ok (.iload_n 1, 1) := by decide +kernel
theorem dX3_put_1 : decode cX3_put 1 = .ok (.ifCond .lt 13, 3) := by decide +kernel
theorem dX3_put_4 : decode cX3_put 4 = .ok (.iload_n 1, 1) := by decide +kernel
theorem dX3_put_5 : decode cX3_put 5 = .ok (.aload_n 0, 1) := by decide +kernel
theorem dX3_put_6 : decode cX3_put 6 = .ok (.arraylength, 1) := by decide +kernel
theorem dX3_put_7 : decode cX3_put 7 = .ok (.if_icmp .ge 7, 3) := by decide +kernel
theorem dX3_put_10 : decode cX3_put 10 = .ok (.aload_n 0, 1) := by decide +kernel
theorem dX3_put_11 : decode cX3_put 11 = .ok (.iload_n 1, 1) := by decide +kernel
theorem dX3_put_12 : decode cX3_put 12 = .ok (.iload_n 2, 1) := by decide +kernel
theorem dX3_put_13 : decode cX3_put 13 = .ok (.iastore, 1) := by decide +kernel
theorem dX3_put_14 : decode cX3_put 14 = .ok (.return_, 1) := by decide +kernel
theorem dX3_copyRow_0 : decode cX3_copyRow 0 = .ok (.aload_n 0, 1) := by decide +kernel
theorem dX3_copyRow_1 : decode cX3_copyRow 1 = .ok (.iconst 0, 1) := by decide +kernel
theorem dX3_copyRow_2 : decode cX3_copyRow 2 = .ok (.aload_n 1, 1) := by decide +kernel
theorem dX3_copyRow_3 : decode cX3_copyRow 3 = .ok (.iconst 0, 1) := by decide +kernel
theorem dX3_copyRow_4 : decode cX3_copyRow 4 = .ok (.aload_n 0, 1) := by decide +kernel
theorem dX3_copyRow_5 : decode cX3_copyRow 5 = .ok (.arraylength, 1) := by decide +kernel
theorem dX3_copyRow_6 : decode cX3_copyRow 6 = .ok (.aload_n 1, 1) := by decide +kernel
theorem dX3_copyRow_7 : decode cX3_copyRow 7 = .ok (.arraylength, 1) := by decide +kernel
theorem dX3_copyRow_8 : decode cX3_copyRow 8 = .ok (.invokestatic 228, 3) := by decide +kernel
theorem dX3_copyRow_11 : decode cX3_copyRow 11 = .ok (.invokestatic 233, 3) := by decide +kernel
theorem dX3_copyRow_14 : decode cX3_copyRow 14 = .ok (.return_, 1) := by decide +kernel
set_option maxRecDepth 20000 in
theorem ggX4_init_X4_clearTable : GoodIn wsX4_init wsX4_clearTable := goodIn_r _ [18, 5, 19, 20, 21, 17, 22, 23, 24, 25, 26, 27, 28, 29, 30, 31, 32, 33, 34, 35, 36, 37, 38] (by decide +kernel) (by decide +kernel)
set_option maxRecDepth 20000 in
theorem gX4_init_X4_clearTable : GoodIn wsX4_init (wsV RX4 37 RX4 yX4_clearTable wsX4_clearTable) := goodIn_app (goodIn_of _ (by decide +kernel)) ggX4_init_X4_clearTable
theorem dX4_init_0 : decode cX4_init 0 = .ok (.aload_n 0, 1) := by decide +kernel
theorem dX4_init_1 : decode cX4_init 1 = .ok (.invokespecial 1, 3) := by decide +kernel
theorem dX4_init_4 : decode cX4_init 4 = .ok (.aload_n 0, 1) := by decide +kernel
theorem dX4_init_5 : decode cX4_init 5 = .ok (.sipush 1361, 3) := by decide +kernel
theorem dX4_init_8 : decode cX4_init 8 = .ok (.newarray .int, 2) := by decide +kernel
theorem dX4_init_10 : decode cX4_init 10 = .ok (.putfield 7, 3) := by decide +kernel
theorem dX4_init_13 : decode cX4_init 13 = .ok (.aload_n 0, 1) := by decide +kernel
theorem dX4_init_14 : decode cX4_init 14 = .ok (.sipush 8166, 3) := by decide +kernel
theorem dX4_init_17 : decode cX4_init 17 = .ok (.newarray .int, 2) := by decide +kernel
theorem dX4_init_19 : decode cX4_init 19 = .ok (.putfield 13, 3) := by decide +kernel
theorem dX4_init_22 : decode cX4_init 22 = .ok (.aload_n 0, 1) := by decide +kernel
theorem dX4_init_23 : decode cX4_init 23 = .ok (.sipush 1361, 3) := by decide +kernel
theorem dX4_init_26 : decode cX4_init 26 = .ok (.newarray .int, 2) := by decide +kernel
theorem dX4_init_28 : decode cX4_init 28 = .ok (.putfield 16, 3) := by decide +kernel
theorem dX4_init_31 : decode cX4_init 31 = .ok (.aload_n 0, 1) := by decide +kernel
theorem dX4_init_32 : decode cX4_init 32 = .ok (.bipush 12, 2) := by decide +kernel
theorem dX4_init_34 : decode cX4_init 34 = .ok (.newarray .int, 2) := by decide +kernel
theorem dX4_init_36 : decode cX4_init 36 = .ok (.putfield 19, 3) := by decide +kernel
theorem dX4_init_39 : decode cX4_init 39 = .ok (.aload_n 0, 1) := by decide +kernel
theorem dX4_init_40 : decode cX4_init 40 = .ok (.bipush 12, 2) := by decide +kernel
theorem dX4_init_42 : decode cX4_init 42 = .ok (.newarray .int, 2) := by decide +kernel
theorem dX4_init_44 : decode cX4_init 44 = .ok (.putfield 22, 3) := by decide +kernel
theorem dX4_init_47 : decode cX4_init 47 = .ok (.aload_n 0, 1) := by decide +kernel
theorem dX4_init_48 : decode cX4_init 48 = .ok (.sipush 160, 3) := by decide +kernel
theorem dX4_init_51 : decode cX4_init 51 = .ok (.newarray .int, 2) := by decide +kernel
theorem dX4_init_53 : decode cX4_init 53 = .ok (.putfield 25, 3) := by decide +kernel
theorem dX4_init_56 : decode cX4_init 56 = .ok (.aload_n 0, 1) := by decide +kernel
theorem dX4_init_57 : decode cX4_init 57 = .ok (.bipush 13, 2) := by decide +kernel
theorem dX4_init_59 : decode cX4_init 59 = .ok (.newarray .int, 2) := by decide +kernel
theorem dX4_init_61 : decode cX4_init 61 = .ok (.putfield 28, 3) := by decide +kernel
theorem dX4_init_64 : decode cX4_init 64 = .ok (.aload_n 0, 1) := by decide +kernel
theorem dX4_init_65 : decode cX4_init 65 = .ok (.sipush 2080, 3) := by decide +kernel
theorem dX4_init_68 : decode cX4_init 68 = .ok (.newarray .int, 2) := by decide +kernel
theorem dX4_init_70 : decode cX4_init 70 = .ok (.putfield 31, 3) := by decide +kernel
theorem dX4_init_73 : decode cX4_init 73 = .ok (.aload_n 0, 1) := by decide +kernel
theorem dX4_init_74 : decode cX4_init 74 = .ok (.bipush 12, 2) := by decide +kernel
theorem dX4_init_76 : decode cX4_init 76 = .ok (.newarray .int, 2) := by decide +kernel
theorem dX4_init_78 : decode cX4_init 78 = .ok (.putfield 34, 3) := by decide +kernel
theorem dX4_init_81 : decode cX4_init 81 = .ok (.aload_n 0, 1) := by decide +kernel
theorem dX4_init_82 : decode cX4_init 82 = .ok (.invokevirtual 37, 3) := by decide +kernel
theorem dX4_init_85 : decode cX4_init 85 = .ok (.return_, 1) := by decide +kernel
theorem dX4_thrown_0 : decode cX4_thrown 0 = .ok (.aload_n 0, 1) := by decide +kernel
theorem dX4_thrown_1 : decode cX4_thrown 1 = .ok (.getfield 40, 3) := by decide +kernel
theorem dX4_thrown_4 : decode cX4_thrown 4 = .ok (.ireturn, 1) := by decide +kernel
theorem dX4_in_0 : decode cX4_in 0 = .ok (.iload_n 0, 1) := by decide +kernel
theorem dX4_in_1 : decode cX4_in 1 = .ok (.iload_n 1, 1) := by decide +kernel
theorem dX4_in_2 : decode cX4_in 2 = .ok (.if_icmp .lt 12, 3) := by decide +kernel
theorem dX4_in_5 : decode cX4_in 5 = .ok (.iload_n 0, 1) := by decide +kernel
theorem dX4_in_6 : decode cX4_in 6 = .ok (.iload_n 2, 1) := by decide +kernel
theorem dX4_in_7 : decode cX4_in 7 = .ok (.if_icmp .gt 7, 3) := by decide +kernel
theorem dX4_in_10 : decode cX4_in 10 = .ok (.iconst 1, 1) := by decide +kernel
