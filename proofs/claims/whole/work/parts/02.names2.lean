theorem dX1_packFrom_37 : decode cX1_packFrom 37 = .ok (.iconst (-1), 1) := by decide +kernel
theorem dX1_packFrom_38 : decode cX1_packFrom 38 = .ok (.ireturn, 1) := by decide +kernel
theorem dX1_packFrom_39 : decode cX1_packFrom 39 = .ok (.iinc 3 1, 3) := by decide +kernel
theorem dX1_packFrom_42 : decode cX1_packFrom 42 = .ok (.goto (-23), 3) := by decide +kernel
theorem dX1_packFrom_45 : decode cX1_packFrom 45 = .ok (.aload_n 0, 1) := by decide +kernel
theorem dX1_packFrom_46 : decode cX1_packFrom 46 = .ok (.invokevirtual 82, 3) := by decide +kernel
theorem dX1_packFrom_49 : decode cX1_packFrom 49 = .ok (.ireturn, 1) := by decide +kernel
set_option maxRecDepth 20000 in
theorem ggX1_insert_X3_at : GoodIn wsX1_insert wsX3_at := goodIn_r _ [4] (by decide +kernel) (by decide +kernel)
set_option maxRecDepth 20000 in
theorem gX1_insert_X3_at_n85 : GoodIn wsX1_insert (wsX3_at) := ggX1_insert_X3_at
set_option maxRecDepth 20000 in
theorem ggX1_insert_X1_splitLeaf : GoodIn wsX1_insert wsX1_splitLeaf := goodIn_r _ [9, 10, 11, 1, 2, 3, 4, 12, 13, 14, 15, 16, 17, 18, 19, 20, 21, 22, 23, 24, 25, 26, 27, 28, 29, 30, 31, 32, 8, 33, 34, 35, 36, 37, 38, 39, 40, 41, 42, 43, 44, 45, 46, 47, 48, 49, 50, 51, 52, 53, 54, 55, 56, 57, 58, 59, 60, 61, 62, 63, 64, 65, 106, 107, 108, 109, 110, 111, 112, 113, 114, 115, 116] (by decide +kernel) (by decide +kernel)
set_option maxRecDepth 20000 in
theorem gX1_insert_X1_splitLeaf : GoodIn wsX1_insert (wsV RX1 89 RX1 yX1_splitLeaf wsX1_splitLeaf) := goodIn_app (goodIn_of _ (by decide +kernel)) ggX1_insert_X1_splitLeaf
set_option maxRecDepth 20000 in
theorem ggX1_insert_X2_firstOf : GoodIn wsX1_insert wsX2_firstOf := goodIn_r _ [28, 29] (by decide +kernel) (by decide +kernel)
set_option maxRecDepth 20000 in
theorem gX1_insert_X2_firstOf : GoodIn wsX1_insert (va_wsS RX1 93 yX2_firstOf wsX2_firstOf) := goodIn_app (goodIn_of _ (by decide +kernel)) ggX1_insert_X2_firstOf
set_option maxRecDepth 20000 in
theorem ggX1_insert_X2_withoutFirst : GoodIn wsX1_insert wsX2_withoutFirst := goodIn_r _ [49] (by decide +kernel) (by decide +kernel)
set_option maxRecDepth 20000 in
theorem gX1_insert_X2_withoutFirst : GoodIn wsX1_insert (va_wsS RX1 98 yX2_withoutFirst wsX2_withoutFirst) := goodIn_app (goodIn_of _ (by decide +kernel)) ggX1_insert_X2_withoutFirst
set_option maxRecDepth 20000 in
theorem ggX1_insert_X1_childOf : GoodIn wsX1_insert wsX1_childOf := goodIn_r _ [69, 46, 34, 2, 3, 4, 106, 107, 108, 109, 110, 111, 112, 113, 114] (by decide +kernel) (by decide +kernel)
set_option maxRecDepth 20000 in
theorem gX1_insert_X1_childOf : GoodIn wsX1_insert (wsV RX1 102 RX1 yX1_childOf wsX1_childOf) := goodIn_app (goodIn_of _ (by decide +kernel)) ggX1_insert_X1_childOf
set_option maxRecDepth 20000 in
theorem ggX1_insert_X1_makeRoom : GoodIn wsX1_insert wsX1_makeRoom := goodIn_r _ [73, 46, 34, 1, 43, 44, 2, 3, 4, 30, 31, 32, 8, 33, 35, 36, 37, 38, 23, 24, 74, 75, 76, 77, 78, 79, 80, 81, 82, 83, 84, 85, 86, 87, 88, 89, 90, 91, 92, 93, 94, 95, 96, 97, 11, 45, 98, 99, 100, 101, 106, 107, 108, 109, 110, 111, 112, 113, 114] (by decide +kernel) (by decide +kernel)
set_option maxRecDepth 20000 in
theorem gX1_insert_X1_makeRoom : GoodIn wsX1_insert (wsV RX1 106 RX1 yX1_makeRoom wsX1_makeRoom) := goodIn_app (goodIn_of _ (by decide +kernel)) ggX1_insert_X1_makeRoom
set_option maxRecDepth 20000 in
theorem ggX1_insert_X1_hangLeaf : GoodIn wsX1_insert wsX1_hangLeaf := goodIn_r _ [105, 10, 54, 55, 56, 15, 57, 17, 22, 58, 59, 60, 61, 2, 3, 4, 23, 24, 62, 63, 64, 8, 65, 45, 43, 39, 40, 41, 42, 34, 1, 44, 11, 46, 106, 107, 108, 109, 110, 111, 112, 113, 114, 115, 116] (by decide +kernel) (by decide +kernel)
set_option maxRecDepth 20000 in
theorem gX1_insert_X1_hangLeaf : GoodIn wsX1_insert (wsV RX1 109 RX1 yX1_hangLeaf wsX1_hangLeaf) := goodIn_app (goodIn_of _ (by decide +kernel)) ggX1_insert_X1_hangLeaf
theorem dX1_insert_0 : decode cX1_insert 0 = .ok (.iconst 0, 1) := by decide +kernel
theorem dX1_insert_1 : decode cX1_insert 1 = .ok (.istore_n 3, 1) := by decide +kernel
theorem dX1_insert_2 : decode cX1_insert 2 = .ok (.lload_n 1, 1) := by decide +kernel
theorem dX1_insert_3 : decode cX1_insert 3 = .ok (.lstore 4, 2) := by decide +kernel
theorem dX1_insert_5 : decode cX1_insert 5 = .ok (.iconst 0, 1) := by decide +kernel
theorem dX1_insert_6 : decode cX1_insert 6 = .ok (.istore 6, 2) := by decide +kernel
theorem dX1_insert_8 : decode cX1_insert 8 = .ok (.iload 6, 2) := by decide +kernel
theorem dX1_insert_10 : decode cX1_insert 10 = .ok (.bipush 12, 2) := by decide +kernel
theorem dX1_insert_12 : decode cX1_insert 12 = .ok (.if_icmp .gt 77, 3) := by decide +kernel
theorem dX1_insert_15 : decode cX1_insert 15 = .ok (.aload_n 0, 1) := by decide +kernel
theorem dX1_insert_16 : decode cX1_insert 16 = .ok (.getfield 18, 3) := by decide +kernel
theorem dX1_insert_19 : decode cX1_insert 19 = .ok (.iload_n 3, 1) := by decide +kernel
theorem dX1_insert_20 : decode cX1_insert 20 = .ok (.invokestatic 85, 3) := by decide +kernel
theorem dX1_insert_23 : decode cX1_insert 23 = .ok (.iconst 2, 1) := by decide +kernel
theorem dX1_insert_24 : decode cX1_insert 24 = .ok (.if_icmp .ne 11, 3) := by decide +kernel
theorem dX1_insert_27 : decode cX1_insert 27 = .ok (.aload_n 0, 1) := by decide +kernel
theorem dX1_insert_28 : decode cX1_insert 28 = .ok (.iload_n 3, 1) := by decide +kernel
theorem dX1_insert_29 : decode cX1_insert 29 = .ok (.lload 4, 2) := by decide +kernel
theorem dX1_insert_31 : decode cX1_insert 31 = .ok (.invokevirtual 89, 3) := by decide +kernel
theorem dX1_insert_34 : decode cX1_insert 34 = .ok (.ireturn, 1) := by decide +kernel
theorem dX1_insert_35 : decode cX1_insert 35 = .ok (.lload 4, 2) := by decide +kernel
theorem dX1_insert_37 : decode cX1_insert 37 = .ok (.invokestatic 93, 3) := by decide +kernel
theorem dX1_insert_40 : decode cX1_insert 40 = .ok (.istore 7, 2) := by decide +kernel
theorem dX1_insert_42 : decode cX1_insert 42 = .ok (.lload 4, 2) := by decide +kernel
theorem dX1_insert_44 : decode cX1_insert 44 = .ok (.invokestatic 98, 3) := by decide +kernel
theorem dX1_insert_47 : decode cX1_insert 47 = .ok (.lstore 4, 2) := by decide +kernel
theorem dX1_insert_49 : decode cX1_insert 49 = .ok (.aload_n 0, 1) := by decide +kernel
theorem dX1_insert_50 : decode cX1_insert 50 = .ok (.iload_n 3, 1) := by decide +kernel
theorem dX1_insert_51 : decode cX1_insert 51 = .ok (.iload 7, 2) := by decide +kernel
theorem dX1_insert_53 : decode cX1_insert 53 = .ok (.invokevirtual 102, 3) := by decide +kernel
theorem dX1_insert_56 : decode cX1_insert 56 = .ok (.istore 8, 2) := by decide +kernel
theorem dX1_insert_58 : decode cX1_insert 58 = .ok (.iload 8, 2) := by decide +kernel
theorem dX1_insert_60 : decode cX1_insert 60 = .ok (.iconst (-1), 1) := by decide +kernel
theorem dX1_insert_61 : decode cX1_insert 61 = .ok (.if_icmp .ne 19, 3) := by decide +kernel
theorem dX1_insert_64 : decode cX1_insert 64 = .ok (.aload_n 0, 1) := by decide +kernel
theorem dX1_insert_65 : decode cX1_insert 65 = .ok (.aload_n 0, 1) := by decide +kernel
theorem dX1_insert_66 : decode cX1_insert 66 = .ok (.iload_n 3, 1) := by decide +kernel
theorem dX1_insert_67 : decode cX1_insert 67 = .ok (.iload 7, 2) := by decide +kernel
theorem dX1_insert_69 : decode cX1_insert 69 = .ok (.invokevirtual 106, 3) := by decide +kernel
theorem dX1_insert_72 : decode cX1_insert 72 = .ok (.iload 7, 2) := by decide +kernel
theorem dX1_insert_74 : decode cX1_insert 74 = .ok (.lload 4, 2) := by decide +kernel
theorem dX1_insert_76 : decode cX1_insert 76 = .ok (.invokevirtual 109, 3) := by decide +kernel
theorem dX1_insert_79 : decode cX1_insert 79 = .ok (.ireturn, 1) := by decide +kernel
theorem dX1_insert_80 : decode cX1_insert 80 = .ok (.iload 8, 2) := by decide +kernel
theorem dX1_insert_82 : decode cX1_insert 82 = .ok (.istore_n 3, 1) := by decide +kernel
theorem dX1_insert_83 : decode cX1_insert 83 = .ok (.iinc 6 1, 3) := by decide +kernel
theorem dX1_insert_86 : decode cX1_insert 86 = .ok (.goto (-78), 3) := by decide +kernel
theorem dX1_insert_89 : decode cX1_insert 89 = .ok (.iconst (-1), 1) := by decide +kernel
theorem dX1_insert_90 : decode cX1_insert 90 = .ok (.ireturn, 1) := by decide +kernel
set_option maxRecDepth 20000 in
theorem ggX1_makeRoom_X3_at : GoodIn wsX1_makeRoom wsX3_at := goodIn_r _ [8] (by decide +kernel) (by decide +kernel)
set_option maxRecDepth 20000 in
theorem gX1_makeRoom_X3_at_n85 : GoodIn wsX1_makeRoom (wsX3_at) := ggX1_makeRoom_X3_at
set_option maxRecDepth 20000 in
theorem ggX1_makeRoom_X1_placeFirst : GoodIn wsX1_makeRoom wsX1_placeFirst := goodIn_r _ [13, 2, 14, 15, 16, 12, 17, 3, 18, 7, 19, 50, 51, 52, 53, 54, 55, 56, 57, 58] (by decide +kernel) (by decide +kernel)
set_option maxRecDepth 20000 in
theorem gX1_makeRoom_X1_placeFirst : GoodIn wsX1_makeRoom (wsV RX1 113 RX1 yX1_placeFirst wsX1_placeFirst) := goodIn_app (goodIn_of _ (by decide +kernel)) ggX1_makeRoom_X1_placeFirst
set_option maxRecDepth 20000 in
theorem ggX1_makeRoom_X1_childrenOf : GoodIn wsX1_makeRoom wsX1_childrenOf := goodIn_r _ [23, 1, 6, 7, 8, 24, 25, 26, 27, 28, 29, 30, 50, 51, 52, 53, 54, 55, 56, 57, 58] (by decide +kernel) (by decide +kernel)
set_option maxRecDepth 20000 in
theorem gX1_makeRoom_X1_childrenOf : GoodIn wsX1_makeRoom (wsV RX1 117 RX1 yX1_childrenOf wsX1_childrenOf) := goodIn_app (goodIn_of _ (by decide +kernel)) ggX1_makeRoom_X1_childrenOf
set_option maxRecDepth 20000 in
theorem ggX1_makeRoom_X1_moveChildren : GoodIn wsX1_makeRoom wsX1_moveChildren := goodIn_r _ [34, 1, 2, 35, 6, 7, 8, 14, 15, 16, 12, 17, 3, 36, 37, 38, 39, 4, 18, 19, 40, 41, 42, 43, 5, 44, 45, 46, 47, 48, 49, 50, 51, 52, 53, 54, 55, 56, 57, 58] (by decide +kernel) (by decide +kernel)
set_option maxRecDepth 20000 in
theorem gX1_makeRoom_X1_moveChildren : GoodIn wsX1_makeRoom (wsV RX1 121 RX1 yX1_moveChildren wsX1_moveChildren) := goodIn_app (goodIn_of _ (by decide +kernel)) ggX1_makeRoom_X1_moveChildren
theorem dX1_makeRoom_0 : decode cX1_makeRoom 0 = .ok (.aload_n 0, 1) := by decide +kernel
theorem dX1_makeRoom_1 : decode cX1_makeRoom 1 = .ok (.getfield 34, 3) := by decide +kernel
theorem dX1_makeRoom_4 : decode cX1_makeRoom 4 = .ok (.iload_n 1, 1) := by decide +kernel
theorem dX1_makeRoom_5 : decode cX1_makeRoom 5 = .ok (.invokestatic 85, 3) := by decide +kernel
theorem dX1_makeRoom_8 : decode cX1_makeRoom 8 = .ok (.ifCond .ne 20, 3) := by decide +kernel
theorem dX1_makeRoom_11 : decode cX1_makeRoom 11 = .ok (.aload_n 0, 1) := by decide +kernel
theorem dX1_makeRoom_12 : decode cX1_makeRoom 12 = .ok (.iload_n 1, 1) := by decide +kernel
theorem dX1_makeRoom_13 : decode cX1_makeRoom 13 = .ok (.iconst 1, 1) := by decide +kernel
theorem dX1_makeRoom_14 : decode cX1_makeRoom 14 = .ok (.iload_n 2, 1) := by decide +kernel
theorem dX1_makeRoom_15 : decode cX1_makeRoom 15 = .ok (.ishl, 1) := by decide +kernel
theorem dX1_makeRoom_16 : decode cX1_makeRoom 16 = .ok (.invokevirtual 113, 3) := by decide +kernel
theorem dX1_makeRoom_19 : decode cX1_makeRoom 19 = .ok (.ifCond .eq 7, 3) := by decide +kernel
theorem dX1_makeRoom_22 : decode cX1_makeRoom 22 = .ok (.iload_n 1, 1) := by decide +kernel
theorem dX1_makeRoom_23 : decode cX1_makeRoom 23 = .ok (.goto 4, 3) := by decide +kernel
theorem dX1_makeRoom_26 : decode cX1_makeRoom 26 = .ok (.iconst (-1), 1) := by decide +kernel
theorem dX1_makeRoom_27 : decode cX1_makeRoom 27 = .ok (.ireturn, 1) := by decide +kernel
theorem dX1_makeRoom_28 : decode cX1_makeRoom 28 = .ok (.aload_n 0, 1) := by decide +kernel
theorem dX1_makeRoom_29 : decode cX1_makeRoom 29 = .ok (.getfield 28, 3) := by decide +kernel
theorem dX1_makeRoom_32 : decode cX1_makeRoom 32 = .ok (.iload_n 1, 1) := by decide +kernel
theorem dX1_makeRoom_33 : decode cX1_makeRoom 33 = .ok (.invokestatic 85, 3) := by decide +kernel
theorem dX1_makeRoom_36 : decode cX1_makeRoom 36 = .ok (.iload_n 2, 1) := by decide +kernel
theorem dX1_makeRoom_37 : decode cX1_makeRoom 37 = .ok (.iadd, 1) := by decide +kernel
theorem dX1_makeRoom_38 : decode cX1_makeRoom 38 = .ok (.istore_n 3, 1) := by decide +kernel
theorem dX1_makeRoom_39 : decode cX1_makeRoom 39 = .ok (.aload_n 0, 1) := by decide +kernel
theorem dX1_makeRoom_40 : decode cX1_makeRoom 40 = .ok (.getfield 18, 3) := by decide +kernel
theorem dX1_makeRoom_43 : decode cX1_makeRoom 43 = .ok (.iload_n 3, 1) := by decide +kernel
theorem dX1_makeRoom_44 : decode cX1_makeRoom 44 = .ok (.invokestatic 85, 3) := by decide +kernel
theorem dX1_makeRoom_47 : decode cX1_makeRoom 47 = .ok (.ifCond .ne 5, 3) := by decide +kernel
theorem dX1_makeRoom_50 : decode cX1_makeRoom 50 = .ok (.iload_n 1, 1) := by decide +kernel
theorem dX1_makeRoom_51 : decode cX1_makeRoom 51 = .ok (.ireturn, 1) := by decide +kernel
theorem dX1_makeRoom_52 : decode cX1_makeRoom 52 = .ok (.aload_n 0, 1) := by decide +kernel
theorem dX1_makeRoom_53 : decode cX1_makeRoom 53 = .ok (.getfield 22, 3) := by decide +kernel
theorem dX1_makeRoom_56 : decode cX1_makeRoom 56 = .ok (.iload_n 3, 1) := by decide +kernel
theorem dX1_makeRoom_57 : decode cX1_makeRoom 57 = .ok (.invokestatic 85, 3) := by decide +kernel
theorem dX1_makeRoom_60 : decode cX1_makeRoom 60 = .ok (.istore 4, 2) := by decide +kernel
theorem dX1_makeRoom_62 : decode cX1_makeRoom 62 = .ok (.iload 4, 2) := by decide +kernel
theorem dX1_makeRoom_64 : decode cX1_makeRoom 64 = .ok (.iconst (-1), 1) := by decide +kernel
theorem dX1_makeRoom_65 : decode cX1_makeRoom 65 = .ok (.if_icmp .eq 19, 3) := by decide +kernel
theorem dX1_makeRoom_68 : decode cX1_makeRoom 68 = .ok (.aload_n 0, 1) := by decide +kernel
theorem dX1_makeRoom_69 : decode cX1_makeRoom 69 = .ok (.iload 4, 2) := by decide +kernel
theorem dX1_makeRoom_71 : decode cX1_makeRoom 71 = .ok (.invokevirtual 117, 3) := by decide +kernel
theorem dX1_makeRoom_74 : decode cX1_makeRoom 74 = .ok (.aload_n 0, 1) := by decide +kernel
theorem dX1_makeRoom_75 : decode cX1_makeRoom 75 = .ok (.iload_n 1, 1) := by decide +kernel
theorem dX1_makeRoom_76 : decode cX1_makeRoom 76 = .ok (.invokevirtual 117, 3) := by decide +kernel
theorem dX1_makeRoom_79 : decode cX1_makeRoom 79 = .ok (.iconst 1, 1) := by decide +kernel
theorem dX1_makeRoom_80 : decode cX1_makeRoom 80 = .ok (.iadd, 1) := by decide +kernel
theorem dX1_makeRoom_81 : decode cX1_makeRoom 81 = .ok (.if_icmp .lt 20, 3) := by decide +kernel
theorem dX1_makeRoom_84 : decode cX1_makeRoom 84 = .ok (.aload_n 0, 1) := by decide +kernel
theorem dX1_makeRoom_85 : decode cX1_makeRoom 85 = .ok (.iload_n 1, 1) := by decide +kernel
theorem dX1_makeRoom_86 : decode cX1_makeRoom 86 = .ok (.iconst 1, 1) := by decide +kernel
theorem dX1_makeRoom_87 : decode cX1_makeRoom 87 = .ok (.iload_n 2, 1) := by decide +kernel
theorem dX1_makeRoom_88 : decode cX1_makeRoom 88 = .ok (.ishl, 1) := by decide +kernel
theorem dX1_makeRoom_89 : decode cX1_makeRoom 89 = .ok (.invokevirtual 121, 3) := by decide +kernel
theorem dX1_makeRoom_92 : decode cX1_makeRoom 92 = .ok (.ifCond .eq 7, 3) := by decide +kernel
theorem dX1_makeRoom_95 : decode cX1_makeRoom 95 = .ok (.iload_n 1, 1) := by decide +kernel
theorem dX1_makeRoom_96 : decode cX1_makeRoom 96 = .ok (.goto 4, 3) := by decide +kernel
theorem dX1_makeRoom_99 : decode cX1_makeRoom 99 = .ok (.iconst (-1), 1) := by decide +kernel
theorem dX1_makeRoom_100 : decode cX1_makeRoom 100 = .ok (.ireturn, 1) := by decide +kernel
theorem dX1_makeRoom_101 : decode cX1_makeRoom 101 = .ok (.aload_n 0, 1) := by decide +kernel
theorem dX1_makeRoom_102 : decode cX1_makeRoom 102 = .ok (.getfield 22, 3) := by decide +kernel
theorem dX1_makeRoom_105 : decode cX1_makeRoom 105 = .ok (.iload_n 1, 1) := by decide +kernel
theorem dX1_makeRoom_106 : decode cX1_makeRoom 106 = .ok (.invokestatic 85, 3) := by decide +kernel
theorem dX1_makeRoom_109 : decode cX1_makeRoom 109 = .ok (.iload 4, 2) := by decide +kernel
theorem dX1_makeRoom_111 : decode cX1_makeRoom 111 = .ok (.if_icmp .ne 7, 3) := by decide +kernel
theorem dX1_makeRoom_114 : decode cX1_makeRoom 114 = .ok (.iconst 1, 1) := by decide +kernel
theorem dX1_makeRoom_115 : decode cX1_makeRoom 115 = .ok (.goto 4, 3) := by decide +kernel
theorem dX1_makeRoom_118 : decode cX1_makeRoom 118 = .ok (.iconst 0, 1) := by decide +kernel
theorem dX1_makeRoom_119 : decode cX1_makeRoom 119 = .ok (.istore 5, 2) := by decide +kernel
theorem dX1_makeRoom_121 : decode cX1_makeRoom 121 = .ok (.aload_n 0, 1) := by decide +kernel
theorem dX1_makeRoom_122 : decode cX1_makeRoom 122 = .ok (.getfield 25, 3) := by decide +kernel
theorem dX1_makeRoom_125 : decode cX1_makeRoom 125 = .ok (.iload_n 1, 1) := by decide +kernel
theorem dX1_makeRoom_126 : decode cX1_makeRoom 126 = .ok (.invokestatic 85, 3) := by decide +kernel
theorem dX1_makeRoom_129 : decode cX1_makeRoom 129 = .ok (.istore 6, 2) := by decide +kernel
theorem dX1_makeRoom_131 : decode cX1_makeRoom 131 = .ok (.aload_n 0, 1) := by decide +kernel
theorem dX1_makeRoom_132 : decode cX1_makeRoom 132 = .ok (.iload 4, 2) := by decide +kernel
theorem dX1_makeRoom_134 : decode cX1_makeRoom 134 = .ok (.iconst 0, 1) := by decide +kernel
theorem dX1_makeRoom_135 : decode cX1_makeRoom 135 = .ok (.invokevirtual 121, 3) := by decide +kernel
theorem dX1_makeRoom_138 : decode cX1_makeRoom 138 = .ok (.ifCond .ne 5, 3) := by decide +kernel
theorem dX1_makeRoom_141 : decode cX1_makeRoom 141 = .ok (.iconst (-1), 1) := by decide +kernel
theorem dX1_makeRoom_142 : decode cX1_makeRoom 142 = .ok (.ireturn, 1) := by decide +kernel
theorem dX1_makeRoom_143 : decode cX1_makeRoom 143 = .ok (.iload 5, 2) := by decide +kernel
theorem dX1_makeRoom_145 : decode cX1_makeRoom 145 = .ok (.ifCond .eq 18, 3) := by decide +kernel
theorem dX1_makeRoom_148 : decode cX1_makeRoom 148 = .ok (.aload_n 0, 1) := by decide +kernel
theorem dX1_makeRoom_149 : decode cX1_makeRoom 149 = .ok (.getfield 28, 3) := by decide +kernel
theorem dX1_makeRoom_152 : decode cX1_makeRoom 152 = .ok (.iload 4, 2) := by decide +kernel
theorem dX1_makeRoom_154 : decode cX1_makeRoom 154 = .ok (.invokestatic 85, 3) := by decide +kernel
theorem dX1_makeRoom_157 : decode cX1_makeRoom 157 = .ok (.iload 6, 2) := by decide +kernel
theorem dX1_makeRoom_159 : decode cX1_makeRoom 159 = .ok (.iadd, 1) := by decide +kernel
theorem dX1_makeRoom_160 : decode cX1_makeRoom 160 = .ok (.goto 4, 3) := by decide +kernel
theorem dX1_makeRoom_163 : decode cX1_makeRoom 163 = .ok (.iload_n 1, 1) := by decide +kernel
theorem dX1_makeRoom_164 : decode cX1_makeRoom 164 = .ok (.ireturn, 1) := by decide +kernel
set_option maxRecDepth 20000 in
theorem ggX1_placeFirst_X1_leastOffset : GoodIn wsX1_placeFirst wsX1_leastOffset := goodIn_r _ [6, 7, 11, 12, 13, 14, 15, 16, 17, 18, 19] (by decide +kernel) (by decide +kernel)
set_option maxRecDepth 20000 in
theorem gX1_placeFirst_X1_leastOffset : GoodIn wsX1_placeFirst (wsV RX1 124 RX1 yX1_leastOffset wsX1_leastOffset) := goodIn_app (goodIn_of _ (by decide +kernel)) ggX1_placeFirst_X1_leastOffset
set_option maxRecDepth 20000 in
theorem ggX1_placeFirst_X3_put : GoodIn wsX1_placeFirst wsX3_put := goodIn_r _ [10] (by decide +kernel) (by decide +kernel)
set_option maxRecDepth 20000 in
theorem gX1_placeFirst_X3_put_n50 : GoodIn wsX1_placeFirst (wsX3_put) := ggX1_placeFirst_X3_put
theorem dX1_placeFirst_0 : decode cX1_placeFirst 0 = .ok (.aload_n 0, 1) := by decide +kernel
theorem dX1_placeFirst_1 : decode cX1_placeFirst 1 = .ok (.iload_n 2, 1) := by decide +kernel
theorem dX1_placeFirst_2 : decode cX1_placeFirst 2 = .ok (.invokevirtual 124, 3) := by decide +kernel
theorem dX1_placeFirst_5 : decode cX1_placeFirst 5 = .ok (.istore_n 3, 1) := by decide +kernel
theorem dX1_placeFirst_6 : decode cX1_placeFirst 6 = .ok (.aload_n 0, 1) := by decide +kernel
theorem dX1_placeFirst_7 : decode cX1_placeFirst 7 = .ok (.getfield 28, 3) := by decide +kernel
theorem dX1_placeFirst_10 : decode cX1_placeFirst 10 = .ok (.iload_n 1, 1) := by decide +kernel
theorem dX1_placeFirst_11 : decode cX1_placeFirst 11 = .ok (.iload_n 3, 1) := by decide +kernel
theorem dX1_placeFirst_12 : decode cX1_placeFirst 12 = .ok (.invokestatic 50, 3) := by decide +kernel
theorem dX1_placeFirst_15 : decode cX1_placeFirst 15 = .ok (.iload_n 3, 1) := by decide +kernel
theorem dX1_placeFirst_16 : decode cX1_placeFirst 16 = .ok (.ifCond .le 7, 3) := by decide +kernel
theorem dX1_placeFirst_19 : decode cX1_placeFirst 19 = .ok (.iconst 1, 1) := by decide +kernel
theorem dX1_placeFirst_20 : decode cX1_placeFirst 20 = .ok (.goto 4, 3) := by decide +kernel
theorem dX1_placeFirst_23 : decode cX1_placeFirst 23 = .ok (.iconst 0, 1) := by decide +kernel
theorem dX1_placeFirst_24 : decode cX1_placeFirst 24 = .ok (.ireturn, 1) := by decide +kernel
set_option maxRecDepth 20000 in
theorem ggX1_moveChildren_X3_at : GoodIn wsX1_moveChildren wsX3_at := goodIn_r _ [6] (by decide +kernel) (by decide +kernel)
set_option maxRecDepth 20000 in
theorem gX1_moveChildren_X3_at_n85 : GoodIn wsX1_moveChildren (wsX3_at) := ggX1_moveChildren_X3_at
set_option maxRecDepth 20000 in
theorem ggX1_moveChildren_X1_leastOffset : GoodIn wsX1_moveChildren wsX1_leastOffset := goodIn_r _ [11, 12, 31, 32, 33, 34, 35, 36, 37, 38, 39] (by decide +kernel) (by decide +kernel)
set_option maxRecDepth 20000 in
theorem gX1_moveChildren_X1_leastOffset : GoodIn wsX1_moveChildren (wsV RX1 124 RX1 yX1_leastOffset wsX1_leastOffset) := goodIn_app (goodIn_of _ (by decide +kernel)) ggX1_moveChildren_X1_leastOffset
set_option maxRecDepth 20000 in
theorem ggX1_moveChildren_X1_handChildrenOver : GoodIn wsX1_moveChildren wsX1_handChildrenOver := goodIn_r _ [16, 2, 17, 4, 5, 6, 18, 19, 31, 32, 33, 34, 35, 36, 37, 38, 39] (by decide +kernel) (by decide +kernel)
set_option maxRecDepth 20000 in
theorem gX1_moveChildren_X1_handChildrenOver : GoodIn wsX1_moveChildren (wsV RX1 127 RX1 yX1_handChildrenOver wsX1_handChildrenOver) := goodIn_app (goodIn_of _ (by decide +kernel)) ggX1_moveChildren_X1_handChildrenOver
set_option maxRecDepth 20000 in
theorem ggX1_moveChildren_X1_copyCell : GoodIn wsX1_moveChildren wsX1_copyCell := goodIn_r _ [23, 12, 17, 24, 2, 25, 1, 26, 4, 5, 6, 18, 19, 31, 32, 33, 34, 35, 36, 37, 38, 39] (by decide +kernel) (by decide +kernel)
set_option maxRecDepth 20000 in
theorem gX1_moveChildren_X1_copyCell : GoodIn wsX1_moveChildren (wsV RX1 131 RX1 yX1_copyCell wsX1_copyCell) := goodIn_app (goodIn_of _ (by decide +kernel)) ggX1_moveChildren_X1_copyCell
set_option maxRecDepth 20000 in
theorem ggX1_moveChildren_X1_clearCell : GoodIn wsX1_moveChildren wsX1_clearCell := goodIn_r _ [30, 12, 17, 24, 2, 25, 1, 26, 18, 5, 19, 31, 32, 33, 34, 35, 36, 37, 38, 39] (by decide +kernel) (by decide +kernel)
set_option maxRecDepth 20000 in
theorem gX1_moveChildren_X1_clearCell : GoodIn wsX1_moveChildren (wsV RX1 54 RX1 yX1_clearCell wsX1_clearCell) := goodIn_app (goodIn_of _ (by decide +kernel)) ggX1_moveChildren_X1_clearCell
set_option maxRecDepth 20000 in
theorem ggX1_moveChildren_X3_put : GoodIn wsX1_moveChildren wsX3_put := goodIn_r _ [19] (by decide +kernel) (by decide +kernel)
set_option maxRecDepth 20000 in
theorem gX1_moveChildren_X3_put_n50 : GoodIn wsX1_moveChildren (wsX3_put) := ggX1_moveChildren_X3_put
theorem dX1_moveChildren_0 : decode cX1_moveChildren 0 = .ok (.aload_n 0, 1) := by decide +kernel
theorem dX1_moveChildren_1 : decode cX1_moveChildren 1 = .ok (.getfield 34, 3) := by decide +kernel
theorem dX1_moveChildren_4 : decode cX1_moveChildren 4 = .ok (.iload_n 1, 1) := by decide +kernel
theorem dX1_moveChildren_5 : decode cX1_moveChildren 5 = .ok (.invokestatic 85, 3) := by decide +kernel
theorem dX1_moveChildren_8 : decode cX1_moveChildren 8 = .ok (.istore_n 3, 1) := by decide +kernel
theorem dX1_moveChildren_9 : decode cX1_moveChildren 9 = .ok (.aload_n 0, 1) := by decide +kernel
theorem dX1_moveChildren_10 : decode cX1_moveChildren 10 = .ok (.getfield 28, 3) := by decide +kernel
theorem dX1_moveChildren_13 : decode cX1_moveChildren 13 = .ok (.iload_n 1, 1) := by decide +kernel
theorem dX1_moveChildren_14 : decode cX1_moveChildren 14 = .ok (.invokestatic 85, 3) := by decide +kernel
theorem dX1_moveChildren_17 : decode cX1_moveChildren 17 = .ok (.istore 4, 2) := by decide +kernel
theorem dX1_moveChildren_19 : decode cX1_moveChildren 19 = .ok (.aload_n 0, 1) := by decide +kernel
theorem dX1_moveChildren_20 : decode cX1_moveChildren 20 = .ok (.iload_n 3, 1) := by decide +kernel
theorem dX1_moveChildren_21 : decode cX1_moveChildren 21 = .ok (.iload_n 2, 1) := by decide +kernel
theorem dX1_moveChildren_22 : decode cX1_moveChildren 22 = .ok (.ior, 1) := by decide +kernel
theorem dX1_moveChildren_23 : decode cX1_moveChildren 23 = .ok (.invokevirtual 124, 3) := by decide +kernel
theorem dX1_moveChildren_26 : decode cX1_moveChildren 26 = .ok (.istore 5, 2) := by decide +kernel
theorem dX1_moveChildren_28 : decode cX1_moveChildren 28 = .ok (.iload 5, 2) := by decide +kernel
theorem dX1_moveChildren_30 : decode cX1_moveChildren 30 = .ok (.ifCond .ne 5, 3) := by decide +kernel
theorem dX1_moveChildren_33 : decode cX1_moveChildren 33 = .ok (.iconst 0, 1) := by decide +kernel
theorem dX1_moveChildren_34 : decode cX1_moveChildren 34 = .ok (.ireturn, 1) := by decide +kernel
theorem dX1_moveChildren_35 : decode cX1_moveChildren 35 = .ok (.iconst 0, 1) := by decide +kernel
theorem dX1_moveChildren_36 : decode cX1_moveChildren 36 = .ok (.istore 6, 2) := by decide +kernel
theorem dX1_moveChildren_38 : decode cX1_moveChildren 38 = .ok (.iload 6, 2) := by decide +kernel
theorem dX1_moveChildren_40 : decode cX1_moveChildren 40 = .ok (.bipush 8, 2) := by decide +kernel
theorem dX1_moveChildren_42 : decode cX1_moveChildren 42 = .ok (.if_icmp .gt 65, 3) := by decide +kernel
theorem dX1_moveChildren_45 : decode cX1_moveChildren 45 = .ok (.iload_n 3, 1) := by decide +kernel
theorem dX1_moveChildren_46 : decode cX1_moveChildren 46 = .ok (.iload 6, 2) := by decide +kernel
theorem dX1_moveChildren_48 : decode cX1_moveChildren 48 = .ok (.ishr, 1) := by decide +kernel
theorem dX1_moveChildren_49 : decode cX1_moveChildren 49 = .ok (.iconst 1, 1) := by decide +kernel
theorem dX1_moveChildren_50 : decode cX1_moveChildren 50 = .ok (.iand, 1) := by decide +kernel
theorem dX1_moveChildren_51 : decode cX1_moveChildren 51 = .ok (.ifCond .eq 50, 3) := by decide +kernel
theorem dX1_moveChildren_54 : decode cX1_moveChildren 54 = .ok (.aload_n 0, 1) := by decide +kernel
theorem dX1_moveChildren_55 : decode cX1_moveChildren 55 = .ok (.iload 4, 2) := by decide +kernel
theorem dX1_moveChildren_57 : decode cX1_moveChildren 57 = .ok (.iload 6, 2) := by decide +kernel
theorem dX1_moveChildren_59 : decode cX1_moveChildren 59 = .ok (.iadd, 1) := by decide +kernel
theorem dX1_moveChildren_60 : decode cX1_moveChildren 60 = .ok (.iload 5, 2) := by decide +kernel
theorem dX1_moveChildren_62 : decode cX1_moveChildren 62 = .ok (.iload 6, 2) := by decide +kernel
theorem dX1_moveChildren_64 : decode cX1_moveChildren 64 = .ok (.iadd, 1) := by decide +kernel
theorem dX1_moveChildren_65 : decode cX1_moveChildren 65 = .ok (.invokevirtual 127, 3) := by decide +kernel
theorem dX1_moveChildren_68 : decode cX1_moveChildren 68 = .ok (.aload_n 0, 1) := by decide +kernel
theorem dX1_moveChildren_69 : decode cX1_moveChildren 69 = .ok (.iload 4, 2) := by decide +kernel
theorem dX1_moveChildren_71 : decode cX1_moveChildren 71 = .ok (.iload 6, 2) := by decide +kernel
theorem dX1_moveChildren_73 : decode cX1_moveChildren 73 = .ok (.iadd, 1) := by decide +kernel
theorem dX1_moveChildren_74 : decode cX1_moveChildren 74 = .ok (.iload 5, 2) := by decide +kernel
theorem dX1_moveChildren_76 : decode cX1_moveChildren 76 = .ok (.iload 6, 2) := by decide +kernel
theorem dX1_moveChildren_78 : decode cX1_moveChildren 78 = .ok (.iadd, 1) := by decide +kernel
theorem dX1_moveChildren_79 : decode cX1_moveChildren 79 = .ok (.invokevirtual 131, 3) := by decide +kernel
theorem dX1_moveChildren_82 : decode cX1_moveChildren 82 = .ok (.aload_n 0, 1) := by decide +kernel
theorem dX1_moveChildren_83 : decode cX1_moveChildren 83 = .ok (.iload 4, 2) := by decide +kernel
theorem dX1_moveChildren_85 : decode cX1_moveChildren 85 = .ok (.iload 6, 2) := by decide +kernel
theorem dX1_moveChildren_87 : decode cX1_moveChildren 87 = .ok (.iadd, 1) := by decide +kernel
theorem dX1_moveChildren_88 : decode cX1_moveChildren 88 = .ok (.invokevirtual 54, 3) := by decide +kernel
theorem dX1_moveChildren_91 : decode cX1_moveChildren 91 = .ok (.aload_n 0, 1) := by decide +kernel
theorem dX1_moveChildren_92 : decode cX1_moveChildren 92 = .ok (.dup, 1) := by decide +kernel
theorem dX1_moveChildren_93 : decode cX1_moveChildren 93 = .ok (.getfield 40, 3) := by decide +kernel
theorem dX1_moveChildren_96 : decode cX1_moveChildren 96 = .ok (.iconst 1, 1) := by decide +kernel
theorem dX1_moveChildren_97 : decode cX1_moveChildren 97 = .ok (.iadd, 1) := by decide +kernel
theorem dX1_moveChildren_98 : decode cX1_moveChildren 98 = .ok (.putfield 40, 3) := by decide +kernel
theorem dX1_moveChildren_101 : decode cX1_moveChildren 101 = .ok (.iinc 6 1, 3) := by decide +kernel
theorem dX1_moveChildren_104 : decode cX1_moveChildren 104 = .ok (.goto (-66), 3) := by decide +kernel
theorem dX1_moveChildren_107 : decode cX1_moveChildren 107 = .ok (.aload_n 0, 1) := by decide +kernel
theorem dX1_moveChildren_108 : decode cX1_moveChildren 108 = .ok (.getfield 28, 3) := by decide +kernel
theorem dX1_moveChildren_111 : decode cX1_moveChildren 111 = .ok (.iload_n 1, 1) := by decide +kernel
theorem dX1_moveChildren_112 : decode cX1_moveChildren 112 = .ok (.iload 5, 2) := by decide +kernel
theorem dX1_moveChildren_114 : decode cX1_moveChildren 114 = .ok (.invokestatic 50, 3) := by decide +kernel
theorem dX1_moveChildren_117 : decode cX1_moveChildren 117 = .ok (.iconst 1, 1) := by decide +kernel
theorem dX1_moveChildren_118 : decode cX1_moveChildren 118 = .ok (.ireturn, 1) := by decide +kernel
set_option maxRecDepth 20000 in
theorem ggX1_handChildrenOver_X3_at : GoodIn wsX1_handChildrenOver wsX3_at := goodIn_r _ [5] (by decide +kernel) (by decide +kernel)
set_option maxRecDepth 20000 in
theorem gX1_handChildrenOver_X3_at_n85 : GoodIn wsX1_handChildrenOver (wsX3_at) := ggX1_handChildrenOver_X3_at
set_option maxRecDepth 20000 in
theorem ggX1_handChildrenOver_X3_put : GoodIn wsX1_handChildrenOver wsX3_put := goodIn_r _ [7] (by decide +kernel) (by decide +kernel)
set_option maxRecDepth 20000 in
theorem gX1_handChildrenOver_X3_put_n50 : GoodIn wsX1_handChildrenOver (wsX3_put) := ggX1_handChildrenOver_X3_put
theorem dX1_handChildrenOver_0 : decode cX1_handChildrenOver 0 = .ok (.iconst 0, 1) := by decide +kernel
theorem dX1_handChildrenOver_1 : decode cX1_handChildrenOver 1 = .ok (.istore_n 3, 1) := by decide +kernel
theorem dX1_handChildrenOver_2 : decode cX1_handChildrenOver 2 = .ok (.iload_n 3, 1) := by decide +kernel
theorem dX1_handChildrenOver_3 : decode cX1_handChildrenOver 3 = .ok (.bipush 8, 2) := by decide +kernel
theorem dX1_handChildrenOver_5 : decode cX1_handChildrenOver 5 = .ok (.if_icmp .gt 44, 3) := by decide +kernel
theorem dX1_handChildrenOver_8 : decode cX1_handChildrenOver 8 = .ok (.aload_n 0, 1) := by decide +kernel
theorem dX1_handChildrenOver_9 : decode cX1_handChildrenOver 9 = .ok (.getfield 28, 3) := by decide +kernel
theorem dX1_handChildrenOver_12 : decode cX1_handChildrenOver 12 = .ok (.iload_n 1, 1) := by decide +kernel
theorem dX1_handChildrenOver_13 : decode cX1_handChildrenOver 13 = .ok (.invokestatic 85, 3) := by decide +kernel
theorem dX1_handChildrenOver_16 : decode cX1_handChildrenOver 16 = .ok (.iload_n 3, 1) := by decide +kernel
theorem dX1_handChildrenOver_17 : decode cX1_handChildrenOver 17 = .ok (.iadd, 1) := by decide +kernel
theorem dX1_handChildrenOver_18 : decode cX1_handChildrenOver 18 = .ok (.istore 4, 2) := by decide +kernel
theorem dX1_handChildrenOver_20 : decode cX1_handChildrenOver 20 = .ok (.aload_n 0, 1) := by decide +kernel
theorem dX1_handChildrenOver_21 : decode cX1_handChildrenOver 21 = .ok (.getfield 22, 3) := by decide +kernel
theorem dX1_handChildrenOver_24 : decode cX1_handChildrenOver 24 = .ok (.iload 4, 2) := by decide +kernel
theorem dX1_handChildrenOver_26 : decode cX1_handChildrenOver 26 = .ok (.invokestatic 85, 3) := by decide +kernel
theorem dX1_handChildrenOver_29 : decode cX1_handChildrenOver 29 = .ok (.iload_n 1, 1) := by decide +kernel
theorem dX1_handChildrenOver_30 : decode cX1_handChildrenOver 30 = .ok (.if_icmp .ne 13, 3) := by decide +kernel
theorem dX1_handChildrenOver_33 : decode cX1_handChildrenOver 33 = .ok (.aload_n 0, 1) := by decide +kernel
theorem dX1_handChildrenOver_34 : decode cX1_handChildrenOver 34 = .ok (.getfield 22, 3) := by decide +kernel
theorem dX1_handChildrenOver_37 : decode cX1_handChildrenOver 37 = .ok (.iload 4, 2) := by decide +kernel
theorem dX1_handChildrenOver_39 : decode cX1_handChildrenOver 39 = .ok (.iload_n 2, 1) := by decide +kernel
theorem dX1_handChildrenOver_40 : decode cX1_handChildrenOver 40 = .ok (.invokestatic 50, 3) := by decide +kernel
theorem dX1_handChildrenOver_43 : decode cX1_handChildrenOver 43 = .ok (.iinc 3 1, 3) := by decide +kernel
theorem dX1_handChildrenOver_46 : decode cX1_handChildrenOver 46 = .ok (.goto (-44), 3) := by decide +kernel
theorem dX1_handChildrenOver_49 : decode cX1_handChildrenOver 49 = .ok (.return_, 1) := by decide +kernel
set_option maxRecDepth 20000 in
theorem ggX1_copyCell_X3_at : GoodIn wsX1_copyCell wsX3_at := goodIn_r _ [10] (by decide +kernel) (by decide +kernel)
set_option maxRecDepth 20000 in
theorem gX1_copyCell_X3_at_n85 : GoodIn wsX1_copyCell (wsX3_at) := ggX1_copyCell_X3_at
set_option maxRecDepth 20000 in
theorem ggX1_copyCell_X3_put : GoodIn wsX1_copyCell wsX3_put := goodIn_r _ [12] (by decide +kernel) (by decide +kernel)
set_option maxRecDepth 20000 in
theorem gX1_copyCell_X3_put_n50 : GoodIn wsX1_copyCell (wsX3_put) := ggX1_copyCell_X3_put
theorem dX1_copyCell_0 : decode cX1_copyCell 0 = .ok (.aload_n 0, 1) := by decide +kernel
theorem dX1_copyCell_1 : decode cX1_copyCell 1 = .ok (.getfield 18, 3) := by decide +kernel
theorem dX1_copyCell_4 : decode cX1_copyCell 4 = .ok (.iload_n 2, 1) := by decide +kernel
theorem dX1_copyCell_5 : decode cX1_copyCell 5 = .ok (.aload_n 0, 1) := by decide +kernel
theorem dX1_copyCell_6 : decode cX1_copyCell 6 = .ok (.getfield 18, 3) := by decide +kernel
theorem dX1_copyCell_9 : decode cX1_copyCell 9 = .ok (.iload_n 1, 1) := by decide +kernel
theorem dX1_copyCell_10 : decode cX1_copyCell 10 = .ok (.invokestatic 85, 3) := by decide +kernel
theorem dX1_copyCell_13 : decode cX1_copyCell 13 = .ok (.invokestatic 50, 3) := by decide +kernel
theorem dX1_copyCell_16 : decode cX1_copyCell 16 = .ok (.aload_n 0, 1) := by decide +kernel
theorem dX1_copyCell_17 : decode cX1_copyCell 17 = .ok (.getfield 22, 3) := by decide +kernel
theorem dX1_copyCell_20 : decode cX1_copyCell 20 = .ok (.iload_n 2, 1) := by decide +kernel
theorem dX1_copyCell_21 : decode cX1_copyCell 21 = .ok (.aload_n 0, 1) := by decide +kernel
theorem dX1_copyCell_22 : decode cX1_copyCell 22 = .ok (.getfield 22, 3) := by decide +kernel
theorem dX1_copyCell_25 : decode cX1_copyCell 25 = .ok (.iload_n 1, 1) := by decide +kernel
theorem dX1_copyCell_26 : decode cX1_copyCell 26 = .ok (.invokestatic 85, 3) := by decide +kernel
theorem dX1_copyCell_29 : decode cX1_copyCell 29 = .ok (.invokestatic 50, 3) := by decide +kernel
theorem dX1_copyCell_32 : decode cX1_copyCell 32 = .ok (.aload_n 0, 1) := by decide +kernel
theorem dX1_copyCell_33 : decode cX1_copyCell 33 = .ok (.getfield 25, 3) := by decide +kernel
theorem dX1_copyCell_36 : decode cX1_copyCell 36 = .ok (.iload_n 2, 1) := by decide +kernel
theorem dX1_copyCell_37 : decode cX1_copyCell 37 = .ok (.aload_n 0, 1) := by decide +kernel
theorem dX1_copyCell_38 : decode cX1_copyCell 38 = .ok (.getfield 25, 3) := by decide +kernel
theorem dX1_copyCell_41 : decode cX1_copyCell 41 = .ok (.iload_n 1, 1) := by decide +kernel
theorem dX1_copyCell_42 : decode cX1_copyCell 42 = .ok (.invokestatic 85, 3) := by decide +kernel
theorem dX1_copyCell_45 : decode cX1_copyCell 45 = .ok (.invokestatic 50, 3) := by decide +kernel
theorem dX1_copyCell_48 : decode cX1_copyCell 48 = .ok (.aload_n 0, 1) := by decide +kernel
theorem dX1_copyCell_49 : decode cX1_copyCell 49 = .ok (.getfield 28, 3) := by decide +kernel
theorem dX1_copyCell_52 : decode cX1_copyCell 52 = .ok (.iload_n 2, 1) := by decide +kernel
theorem dX1_copyCell_53 : decode cX1_copyCell 53 = .ok (.aload_n 0, 1) := by decide +kernel
theorem dX1_copyCell_54 : decode cX1_copyCell 54 = .ok (.getfield 28, 3) := by decide +kernel
theorem dX1_copyCell_57 : decode cX1_copyCell 57 = .ok (.iload_n 1, 1) := by decide +kernel
theorem dX1_copyCell_58 : decode cX1_copyCell 58 = .ok (.invokestatic 85, 3) := by decide +kernel
theorem dX1_copyCell_61 : decode cX1_copyCell 61 = .ok (.invokestatic 50, 3) := by decide +kernel
theorem dX1_copyCell_64 : decode cX1_copyCell 64 = .ok (.aload_n 0, 1) := by decide +kernel
theorem dX1_copyCell_65 : decode cX1_copyCell 65 = .ok (.getfield 31, 3) := by decide +kernel
theorem dX1_copyCell_68 : decode cX1_copyCell 68 = .ok (.iload_n 2, 1) := by decide +kernel
theorem dX1_copyCell_69 : decode cX1_copyCell 69 = .ok (.aload_n 0, 1) := by decide +kernel
theorem dX1_copyCell_70 : decode cX1_copyCell 70 = .ok (.getfield 31, 3) := by decide +kernel
theorem dX1_copyCell_73 : decode cX1_copyCell 73 = .ok (.iload_n 1, 1) := by decide +kernel
theorem dX1_copyCell_74 : decode cX1_copyCell 74 = .ok (.invokestatic 85, 3) := by decide +kernel
theorem dX1_copyCell_77 : decode cX1_copyCell 77 = .ok (.invokestatic 50, 3) := by decide +kernel
theorem dX1_copyCell_80 : decode cX1_copyCell 80 = .ok (.aload_n 0, 1) := by decide +kernel
theorem dX1_copyCell_81 : decode cX1_copyCell 81 = .ok (.getfield 34, 3) := by decide +kernel
theorem dX1_copyCell_84 : decode cX1_copyCell 84 = .ok (.iload_n 2, 1) := by decide +kernel
theorem dX1_copyCell_85 : decode cX1_copyCell 85 = .ok (.aload_n 0, 1) := by decide +kernel
theorem dX1_copyCell_86 : decode cX1_copyCell 86 = .ok (.getfield 34, 3) := by decide +kernel
theorem dX1_copyCell_89 : decode cX1_copyCell 89 = .ok (.iload_n 1, 1) := by decide +kernel
theorem dX1_copyCell_90 : decode cX1_copyCell 90 = .ok (.invokestatic 85, 3) := by decide +kernel
theorem dX1_copyCell_93 : decode cX1_copyCell 93 = .ok (.invokestatic 50, 3) := by decide +kernel
theorem dX1_copyCell_96 : decode cX1_copyCell 96 = .ok (.aload_n 0, 1) := by decide +kernel
theorem dX1_copyCell_97 : decode cX1_copyCell 97 = .ok (.getfield 37, 3) := by decide +kernel
theorem dX1_copyCell_100 : decode cX1_copyCell 100 = .ok (.iload_n 2, 1) := by decide +kernel
theorem dX1_copyCell_101 : decode cX1_copyCell 101 = .ok (.aload_n 0, 1) := by decide +kernel
theorem dX1_copyCell_102 : decode cX1_copyCell 102 = .ok (.getfield 37, 3) := by decide +kernel
theorem dX1_copyCell_105 : decode cX1_copyCell 105 = .ok (.iload_n 1, 1) := by decide +kernel
theorem dX1_copyCell_106 : decode cX1_copyCell 106 = .ok (.invokestatic 85, 3) := by decide +kernel
theorem dX1_copyCell_109 : decode cX1_copyCell 109 = .ok (.invokestatic 50, 3) := by decide +kernel
theorem dX1_copyCell_112 : decode cX1_copyCell 112 = .ok (.return_, 1) := by decide +kernel
theorem dX1_leastOffset_0 : decode cX1_leastOffset 0 = .ok (.iconst 1, 1) := by decide +kernel
theorem dX1_leastOffset_1 : decode cX1_leastOffset 1 = .ok (.istore_n 2, 1) := by decide +kernel
theorem dX1_leastOffset_2 : decode cX1_leastOffset 2 = .ok (.iload_n 2, 1) := by decide +kernel
theorem dX1_leastOffset_3 : decode cX1_leastOffset 3 = .ok (.sipush 160, 3) := by decide +kernel
theorem dX1_leastOffset_6 : decode cX1_leastOffset 6 = .ok (.if_icmp .ge 78, 3) := by decide +kernel
theorem dX1_leastOffset_9 : decode cX1_leastOffset 9 = .ok (.iconst 1, 1) := by decide +kernel
theorem dX1_leastOffset_10 : decode cX1_leastOffset 10 = .ok (.istore_n 3, 1) := by decide +kernel
theorem dX1_leastOffset_11 : decode cX1_leastOffset 11 = .ok (.iconst 0, 1) := by decide +kernel
theorem dX1_leastOffset_12 : decode cX1_leastOffset 12 = .ok (.istore 4, 2) := by decide +kernel
theorem dX1_leastOffset_14 : decode cX1_leastOffset 14 = .ok (.iload 4, 2) := by decide +kernel
theorem dX1_leastOffset_16 : decode cX1_leastOffset 16 = .ok (.bipush 8, 2) := by decide +kernel
theorem dX1_leastOffset_18 : decode cX1_leastOffset 18 = .ok (.if_icmp .gt 54, 3) := by decide +kernel
theorem dX1_leastOffset_21 : decode cX1_leastOffset 21 = .ok (.iload_n 3, 1) := by decide +kernel
theorem dX1_leastOffset_22 : decode cX1_leastOffset 22 = .ok (.ifCond .eq 50, 3) := by decide +kernel
theorem dX1_leastOffset_25 : decode cX1_leastOffset 25 = .ok (.iload_n 2, 1) := by decide +kernel
theorem dX1_leastOffset_26 : decode cX1_leastOffset 26 = .ok (.iload 4, 2) := by decide +kernel
theorem dX1_leastOffset_28 : decode cX1_leastOffset 28 = .ok (.iadd, 1) := by decide +kernel
theorem dX1_leastOffset_29 : decode cX1_leastOffset 29 = .ok (.istore 5, 2) := by decide +kernel
theorem dX1_leastOffset_31 : decode cX1_leastOffset 31 = .ok (.iload_n 1, 1) := by decide +kernel
theorem dX1_leastOffset_32 : decode cX1_leastOffset 32 = .ok (.iload 4, 2) := by decide +kernel
theorem dX1_leastOffset_34 : decode cX1_leastOffset 34 = .ok (.ishr, 1) := by decide +kernel
theorem dX1_leastOffset_35 : decode cX1_leastOffset 35 = .ok (.iconst 1, 1) := by decide +kernel
theorem dX1_leastOffset_36 : decode cX1_leastOffset 36 = .ok (.iand, 1) := by decide +kernel
theorem dX1_leastOffset_37 : decode cX1_leastOffset 37 = .ok (.ifCond .eq 23, 3) := by decide +kernel
theorem dX1_leastOffset_40 : decode cX1_leastOffset 40 = .ok (.iload 5, 2) := by decide +kernel
theorem dX1_leastOffset_42 : decode cX1_leastOffset 42 = .ok (.aload_n 0, 1) := by decide +kernel
theorem dX1_leastOffset_43 : decode cX1_leastOffset 43 = .ok (.getfield 18, 3) := by decide +kernel
theorem dX1_leastOffset_46 : decode cX1_leastOffset 46 = .ok (.arraylength, 1) := by decide +kernel
theorem dX1_leastOffset_47 : decode cX1_leastOffset 47 = .ok (.if_icmp .ge 17, 3) := by decide +kernel
theorem dX1_leastOffset_50 : decode cX1_leastOffset 50 = .ok (.aload_n 0, 1) := by decide +kernel
theorem dX1_leastOffset_51 : decode cX1_leastOffset 51 = .ok (.getfield 18, 3) := by decide +kernel
theorem dX1_leastOffset_54 : decode cX1_leastOffset 54 = .ok (.iload 5, 2) := by decide +kernel
theorem dX1_leastOffset_56 : decode cX1_leastOffset 56 = .ok (.iaload, 1) := by decide +kernel
theorem dX1_leastOffset_57 : decode cX1_leastOffset 57 = .ok (.ifCond .ne 7, 3) := by decide +kernel
theorem dX1_leastOffset_60 : decode cX1_leastOffset 60 = .ok (.iconst 1, 1) := by decide +kernel
theorem dX1_leastOffset_61 : decode cX1_leastOffset 61 = .ok (.goto 4, 3) := by decide +kernel
theorem dX1_leastOffset_64 : decode cX1_leastOffset 64 = .ok (.iconst 0, 1) := by decide +kernel
theorem dX1_leastOffset_65 : decode cX1_leastOffset 65 = .ok (.istore_n 3, 1) := by decide +kernel
theorem dX1_leastOffset_66 : decode cX1_leastOffset 66 = .ok (.iinc 4 1, 3) := by decide +kernel
theorem dX1_leastOffset_69 : decode cX1_leastOffset 69 = .ok (.goto (-55), 3) := by decide +kernel
theorem dX1_leastOffset_72 : decode cX1_leastOffset 72 = .ok (.iload_n 3, 1) := by decide +kernel
theorem dX1_leastOffset_73 : decode cX1_leastOffset 73 = .ok (.ifCond .eq 5, 3) := by decide +kernel
theorem dX1_leastOffset_76 : decode cX1_leastOffset 76 = .ok (.iload_n 2, 1) := by decide +kernel
theorem dX1_leastOffset_77 : decode cX1_leastOffset 77 = .ok (.ireturn, 1) := by decide +kernel
theorem dX1_leastOffset_78 : decode cX1_leastOffset 78 = .ok (.iinc 2 1, 3) := by decide +kernel
theorem dX1_leastOffset_81 : decode cX1_leastOffset 81 = .ok (.goto (-79), 3) := by decide +kernel
theorem dX1_leastOffset_84 : decode cX1_leastOffset 84 = .ok (.iconst 0, 1) := by decide +kernel
theorem dX1_leastOffset_85 : decode cX1_leastOffset 85 = .ok (.ireturn, 1) := by decide +kernel
set_option maxRecDepth 20000 in
theorem ggX1_hangLeaf_X0_keep : GoodIn wsX1_hangLeaf wsX0_keep := goodIn_r _ [6, 7, 8, 9, 10, 11, 5, 12, 13, 14, 15, 16, 17, 43, 44] (by decide +kernel) (by decide +kernel)
set_option maxRecDepth 20000 in
theorem gX1_hangLeaf_X0_keep : GoodIn wsX1_hangLeaf (wsV RX1 134 RX0 yX0_keep wsX0_keep) := goodIn_app (goodIn_of _ (by decide +kernel)) ggX1_hangLeaf_X0_keep
set_option maxRecDepth 20000 in
theorem ggX1_hangLeaf_X1_addBelow : GoodIn wsX1_hangLeaf wsX1_addBelow := goodIn_r _ [22, 23, 24, 13, 14, 15, 16, 17, 34, 35, 36, 37, 38, 39, 40, 41, 42] (by decide +kernel) (by decide +kernel)
set_option maxRecDepth 20000 in
theorem gX1_hangLeaf_X1_addBelow : GoodIn wsX1_hangLeaf (wsV RX1 137 RX1 yX1_addBelow wsX1_addBelow) := goodIn_app (goodIn_of _ (by decide +kernel)) ggX1_hangLeaf_X1_addBelow
set_option maxRecDepth 20000 in
theorem ggX1_hangLeaf_X1_putChild : GoodIn wsX1_hangLeaf wsX1_putChild := goodIn_r _ [28, 29, 30, 24, 31, 32, 23, 33, 13, 14, 15, 16, 17, 34, 35, 36, 37, 38, 39, 40, 41, 42] (by decide +kernel) (by decide +kernel)
set_option maxRecDepth 20000 in
theorem gX1_hangLeaf_X1_putChild : GoodIn wsX1_hangLeaf (wsV RX1 140 RX1 yX1_putChild wsX1_putChild) := goodIn_app (goodIn_of _ (by decide +kernel)) ggX1_hangLeaf_X1_putChild
theorem dX1_hangLeaf_0 : decode cX1_hangLeaf 0 = .ok (.iload_n 1, 1) := by decide +kernel
theorem dX1_hangLeaf_1 : decode cX1_hangLeaf 1 = .ok (.iconst (-1), 1) := by decide +kernel
theorem dX1_hangLeaf_2 : decode cX1_hangLeaf 2 = .ok (.if_icmp .ne 5, 3) := by decide +kernel
theorem dX1_hangLeaf_5 : decode cX1_hangLeaf 5 = .ok (.iconst (-1), 1) := by decide +kernel
theorem dX1_hangLeaf_6 : decode cX1_hangLeaf 6 = .ok (.ireturn, 1) := by decide +kernel
theorem dX1_hangLeaf_7 : decode cX1_hangLeaf 7 = .ok (.aload_n 0, 1) := by decide +kernel
theorem dX1_hangLeaf_8 : decode cX1_hangLeaf 8 = .ok (.getfield 12, 3) := by decide +kernel
theorem dX1_hangLeaf_11 : decode cX1_hangLeaf 11 = .ok (.lload_n 3, 1) := by decide +kernel
theorem dX1_hangLeaf_12 : decode cX1_hangLeaf 12 = .ok (.invokevirtual 134, 3) := by decide +kernel
theorem dX1_hangLeaf_15 : decode cX1_hangLeaf 15 = .ok (.istore 5, 2) := by decide +kernel
theorem dX1_hangLeaf_17 : decode cX1_hangLeaf 17 = .ok (.iload 5, 2) := by decide +kernel
theorem dX1_hangLeaf_19 : decode cX1_hangLeaf 19 = .ok (.iconst (-1), 1) := by decide +kernel
theorem dX1_hangLeaf_20 : decode cX1_hangLeaf 20 = .ok (.if_icmp .ne 5, 3) := by decide +kernel
theorem dX1_hangLeaf_23 : decode cX1_hangLeaf 23 = .ok (.iconst (-1), 1) := by decide +kernel
theorem dX1_hangLeaf_24 : decode cX1_hangLeaf 24 = .ok (.ireturn, 1) := by decide +kernel
theorem dX1_hangLeaf_25 : decode cX1_hangLeaf 25 = .ok (.aload_n 0, 1) := by decide +kernel
theorem dX1_hangLeaf_26 : decode cX1_hangLeaf 26 = .ok (.iload_n 1, 1) := by decide +kernel
theorem dX1_hangLeaf_27 : decode cX1_hangLeaf 27 = .ok (.iconst 1, 1) := by decide +kernel
theorem dX1_hangLeaf_28 : decode cX1_hangLeaf 28 = .ok (.invokevirtual 137, 3) := by decide +kernel
theorem dX1_hangLeaf_31 : decode cX1_hangLeaf 31 = .ok (.aload_n 0, 1) := by decide +kernel
theorem dX1_hangLeaf_32 : decode cX1_hangLeaf 32 = .ok (.iload_n 1, 1) := by decide +kernel
theorem dX1_hangLeaf_33 : decode cX1_hangLeaf 33 = .ok (.iload_n 2, 1) := by decide +kernel
theorem dX1_hangLeaf_34 : decode cX1_hangLeaf 34 = .ok (.iconst 2, 1) := by decide +kernel
theorem dX1_hangLeaf_35 : decode cX1_hangLeaf 35 = .ok (.iload 5, 2) := by decide +kernel
theorem dX1_hangLeaf_37 : decode cX1_hangLeaf 37 = .ok (.invokevirtual 140, 3) := by decide +kernel
theorem dX1_hangLeaf_40 : decode cX1_hangLeaf 40 = .ok (.ireturn, 1) := by decide +kernel
set_option maxRecDepth 20000 in
theorem ggX1_splitLeaf_X3_at : GoodIn wsX1_splitLeaf wsX3_at := goodIn_r _ [6] (by decide +kernel) (by decide +kernel)
set_option maxRecDepth 20000 in
theorem gX1_splitLeaf_X3_at_n85 : GoodIn wsX1_splitLeaf (wsX3_at) := ggX1_splitLeaf_X3_at
set_option maxRecDepth 20000 in
theorem ggX1_splitLeaf_X0_textAt : GoodIn wsX1_splitLeaf wsX0_textAt := goodIn_r _ [11, 12, 71, 72] (by decide +kernel) (by decide +kernel)
set_option maxRecDepth 20000 in
theorem gX1_splitLeaf_X0_textAt : GoodIn wsX1_splitLeaf (wsV RX1 144 RX0 yX0_textAt wsX0_textAt) := goodIn_app (goodIn_of _ (by decide +kernel)) ggX1_splitLeaf_X0_textAt
set_option maxRecDepth 20000 in
theorem ggX1_splitLeaf_X0_release : GoodIn wsX1_splitLeaf wsX0_release := goodIn_r _ [16, 17, 12, 4, 5, 6, 18, 19, 71, 72] (by decide +kernel) (by decide +kernel)
set_option maxRecDepth 20000 in
theorem gX1_splitLeaf_X0_release : GoodIn wsX1_splitLeaf (wsV RX1 147 RX0 yX0_release wsX0_release) := goodIn_app (goodIn_of _ (by decide +kernel)) ggX1_splitLeaf_X0_release
set_option maxRecDepth 20000 in
theorem ggX1_splitLeaf_X3_put : GoodIn wsX1_splitLeaf wsX3_put := goodIn_r _ [19] (by decide +kernel) (by decide +kernel)
set_option maxRecDepth 20000 in
theorem gX1_splitLeaf_X3_put_n50 : GoodIn wsX1_splitLeaf (wsX3_put) := ggX1_splitLeaf_X3_put
set_option maxRecDepth 20000 in
theorem ggX1_splitLeaf_X2_firstOf : GoodIn wsX1_splitLeaf wsX2_firstOf := goodIn_r _ [23, 24] (by decide +kernel) (by decide +kernel)
set_option maxRecDepth 20000 in
theorem gX1_splitLeaf_X2_firstOf : GoodIn wsX1_splitLeaf (va_wsS RX1 93 yX2_firstOf wsX2_firstOf) := goodIn_app (goodIn_of _ (by decide +kernel)) ggX1_splitLeaf_X2_firstOf
set_option maxRecDepth 20000 in
theorem ggX1_splitLeaf_X1_placeFirst : GoodIn wsX1_splitLeaf wsX1_placeFirst := goodIn_r _ [29, 30, 31, 32, 33, 28, 34, 3, 18, 5, 19, 62, 63, 64, 65, 66, 67, 68, 69, 70] (by decide +kernel) (by decide +kernel)
set_option maxRecDepth 20000 in
theorem gX1_splitLeaf_X1_placeFirst : GoodIn wsX1_splitLeaf (wsV RX1 113 RX1 yX1_placeFirst wsX1_placeFirst) := goodIn_app (goodIn_of _ (by decide +kernel)) ggX1_splitLeaf_X1_placeFirst
set_option maxRecDepth 20000 in
theorem ggX1_splitLeaf_X1_putChild : GoodIn wsX1_splitLeaf wsX1_putChild := goodIn_r _ [38, 30, 3, 39, 40, 2, 41, 42, 4, 5, 6, 18, 19, 62, 63, 64, 65, 66, 67, 68, 69, 70] (by decide +kernel) (by decide +kernel)
set_option maxRecDepth 20000 in
theorem gX1_splitLeaf_X1_putChild : GoodIn wsX1_splitLeaf (wsV RX1 140 RX1 yX1_putChild wsX1_putChild) := goodIn_app (goodIn_of _ (by decide +kernel)) ggX1_splitLeaf_X1_putChild
set_option maxRecDepth 20000 in
theorem ggX1_splitLeaf_X2_withoutFirst : GoodIn wsX1_splitLeaf wsX2_withoutFirst := goodIn_r _ [45] (by decide +kernel) (by decide +kernel)
set_option maxRecDepth 20000 in
theorem gX1_splitLeaf_X2_withoutFirst : GoodIn wsX1_splitLeaf (va_wsS RX1 98 yX2_withoutFirst wsX2_withoutFirst) := goodIn_app (goodIn_of _ (by decide +kernel)) ggX1_splitLeaf_X2_withoutFirst
set_option maxRecDepth 20000 in
theorem ggX1_splitLeaf_X1_fork : GoodIn wsX1_splitLeaf wsX1_fork := goodIn_r _ [49, 1, 20, 21, 22, 23, 24, 25, 26, 27, 28, 29, 30, 31, 32, 33, 34, 3, 18, 5, 19, 43, 44, 45, 50, 51, 52, 10, 53, 12, 17, 54, 55, 56, 57, 4, 6, 58, 59, 60, 61, 41, 39, 35, 36, 37, 38, 40, 2, 42, 62, 63, 64, 65, 66, 67, 68, 69, 70, 71, 72] (by decide +kernel) (by decide +kernel)
set_option maxRecDepth 20000 in
theorem gX1_splitLeaf_X1_fork : GoodIn wsX1_splitLeaf (wsV RX1 150 RX1 yX1_fork wsX1_fork) := goodIn_app (goodIn_of _ (by decide +kernel)) ggX1_splitLeaf_X1_fork
theorem dX1_splitLeaf_0 : decode cX1_splitLeaf 0 = .ok (.aload_n 0, 1) := by decide +kernel
theorem dX1_splitLeaf_1 : decode cX1_splitLeaf 1 = .ok (.getfield 12, 3) := by decide +kernel
theorem dX1_splitLeaf_4 : decode cX1_splitLeaf 4 = .ok (.aload_n 0, 1) := by decide +kernel
theorem dX1_splitLeaf_5 : decode cX1_splitLeaf 5 = .ok (.getfield 31, 3) := by decide +kernel
theorem dX1_splitLeaf_8 : decode cX1_splitLeaf 8 = .ok (.iload_n 1, 1) := by decide +kernel
theorem dX1_splitLeaf_9 : decode cX1_splitLeaf 9 = .ok (.invokestatic 85, 3) := by decide +kernel
theorem dX1_splitLeaf_12 : decode cX1_splitLeaf 12 = .ok (.invokevirtual 144, 3) := by decide +kernel
theorem dX1_splitLeaf_15 : decode cX1_splitLeaf 15 = .ok (.lstore 4, 2) := by decide +kernel
theorem dX1_splitLeaf_17 : decode cX1_splitLeaf 17 = .ok (.lload_n 2, 1) := by decide +kernel
theorem dX1_splitLeaf_18 : decode cX1_splitLeaf 18 = .ok (.lstore 6, 2) := by decide +kernel
theorem dX1_splitLeaf_20 : decode cX1_splitLeaf 20 = .ok (.aload_n 0, 1) := by decide +kernel
theorem dX1_splitLeaf_21 : decode cX1_splitLeaf 21 = .ok (.getfield 12, 3) := by decide +kernel
theorem dX1_splitLeaf_24 : decode cX1_splitLeaf 24 = .ok (.aload_n 0, 1) := by decide +kernel
theorem dX1_splitLeaf_25 : decode cX1_splitLeaf 25 = .ok (.getfield 31, 3) := by decide +kernel
theorem dX1_splitLeaf_28 : decode cX1_splitLeaf 28 = .ok (.iload_n 1, 1) := by decide +kernel
theorem dX1_splitLeaf_29 : decode cX1_splitLeaf 29 = .ok (.invokestatic 85, 3) := by decide +kernel
theorem dX1_splitLeaf_32 : decode cX1_splitLeaf 32 = .ok (.invokevirtual 147, 3) := by decide +kernel
theorem dX1_splitLeaf_35 : decode cX1_splitLeaf 35 = .ok (.aload_n 0, 1) := by decide +kernel
theorem dX1_splitLeaf_36 : decode cX1_splitLeaf 36 = .ok (.getfield 18, 3) := by decide +kernel
theorem dX1_splitLeaf_39 : decode cX1_splitLeaf 39 = .ok (.iload_n 1, 1) := by decide +kernel
theorem dX1_splitLeaf_40 : decode cX1_splitLeaf 40 = .ok (.iconst 1, 1) := by decide +kernel
theorem dX1_splitLeaf_41 : decode cX1_splitLeaf 41 = .ok (.invokestatic 50, 3) := by decide +kernel
theorem dX1_splitLeaf_44 : decode cX1_splitLeaf 44 = .ok (.aload_n 0, 1) := by decide +kernel
theorem dX1_splitLeaf_45 : decode cX1_splitLeaf 45 = .ok (.getfield 31, 3) := by decide +kernel
theorem dX1_splitLeaf_48 : decode cX1_splitLeaf 48 = .ok (.iload_n 1, 1) := by decide +kernel
theorem dX1_splitLeaf_49 : decode cX1_splitLeaf 49 = .ok (.iconst (-1), 1) := by decide +kernel
theorem dX1_splitLeaf_50 : decode cX1_splitLeaf 50 = .ok (.invokestatic 50, 3) := by decide +kernel
theorem dX1_splitLeaf_53 : decode cX1_splitLeaf 53 = .ok (.iload_n 1, 1) := by decide +kernel
theorem dX1_splitLeaf_54 : decode cX1_splitLeaf 54 = .ok (.istore 8, 2) := by decide +kernel
theorem dX1_splitLeaf_56 : decode cX1_splitLeaf 56 = .ok (.iconst 0, 1) := by decide +kernel
theorem dX1_splitLeaf_57 : decode cX1_splitLeaf 57 = .ok (.istore 9, 2) := by decide +kernel
theorem dX1_splitLeaf_59 : decode cX1_splitLeaf 59 = .ok (.iload 9, 2) := by decide +kernel
theorem dX1_splitLeaf_61 : decode cX1_splitLeaf 61 = .ok (.bipush 12, 2) := by decide +kernel
theorem dX1_splitLeaf_63 : decode cX1_splitLeaf 63 = .ok (.if_icmp .ge 70, 3) := by decide +kernel
theorem dX1_splitLeaf_66 : decode cX1_splitLeaf 66 = .ok (.lload 4, 2) := by decide +kernel
theorem dX1_splitLeaf_68 : decode cX1_splitLeaf 68 = .ok (.invokestatic 93, 3) := by decide +kernel
theorem dX1_splitLeaf_71 : decode cX1_splitLeaf 71 = .ok (.lload 6, 2) := by decide +kernel
theorem dX1_splitLeaf_73 : decode cX1_splitLeaf 73 = .ok (.invokestatic 93, 3) := by decide +kernel
theorem dX1_splitLeaf_76 : decode cX1_splitLeaf 76 = .ok (.if_icmp .ne 57, 3) := by decide +kernel
theorem dX1_splitLeaf_79 : decode cX1_splitLeaf 79 = .ok (.lload 4, 2) := by decide +kernel
theorem dX1_splitLeaf_81 : decode cX1_splitLeaf 81 = .ok (.invokestatic 93, 3) := by decide +kernel
theorem dX1_splitLeaf_84 : decode cX1_splitLeaf 84 = .ok (.istore 10, 2) := by decide +kernel
theorem dX1_splitLeaf_86 : decode cX1_splitLeaf 86 = .ok (.aload_n 0, 1) := by decide +kernel
theorem dX1_splitLeaf_87 : decode cX1_splitLeaf 87 = .ok (.iload 8, 2) := by decide +kernel
theorem dX1_splitLeaf_89 : decode cX1_splitLeaf 89 = .ok (.iconst 1, 1) := by decide +kernel
theorem dX1_splitLeaf_90 : decode cX1_splitLeaf 90 = .ok (.iload 10, 2) := by decide +kernel
theorem dX1_splitLeaf_92 : decode cX1_splitLeaf 92 = .ok (.ishl, 1) := by decide +kernel
theorem dX1_splitLeaf_93 : decode cX1_splitLeaf 93 = .ok (.invokevirtual 113, 3) := by decide +kernel
theorem dX1_splitLeaf_96 : decode cX1_splitLeaf 96 = .ok (.ifCond .ne 5, 3) := by decide +kernel
theorem dX1_splitLeaf_99 : decode cX1_splitLeaf 99 = .ok (.iconst (-1), 1) := by decide +kernel
theorem dX1_splitLeaf_100 : decode cX1_splitLeaf 100 = .ok (.ireturn, 1) := by decide +kernel
theorem dX1_splitLeaf_101 : decode cX1_splitLeaf 101 = .ok (.aload_n 0, 1) := by decide +kernel
theorem dX1_splitLeaf_102 : decode cX1_splitLeaf 102 = .ok (.iload 8, 2) := by decide +kernel
theorem dX1_splitLeaf_104 : decode cX1_splitLeaf 104 = .ok (.iload 10, 2) := by decide +kernel
theorem dX1_splitLeaf_106 : decode cX1_splitLeaf 106 = .ok (.iconst 1, 1) := by decide +kernel
theorem dX1_splitLeaf_107 : decode cX1_splitLeaf 107 = .ok (.iconst (-1), 1) := by decide +kernel
theorem dX1_splitLeaf_108 : decode cX1_splitLeaf 108 = .ok (.invokevirtual 140, 3) := by decide +kernel
theorem dX1_splitLeaf_111 : decode cX1_splitLeaf 111 = .ok (.istore 8, 2) := by decide +kernel
theorem dX1_splitLeaf_113 : decode cX1_splitLeaf 113 = .ok (.lload 4, 2) := by decide +kernel
theorem dX1_splitLeaf_115 : decode cX1_splitLeaf 115 = .ok (.invokestatic 98, 3) := by decide +kernel
theorem dX1_splitLeaf_118 : decode cX1_splitLeaf 118 = .ok (.lstore 4, 2) := by decide +kernel
theorem dX1_splitLeaf_120 : decode cX1_splitLeaf 120 = .ok (.lload 6, 2) := by decide +kernel
theorem dX1_splitLeaf_122 : decode cX1_splitLeaf 122 = .ok (.invokestatic 98, 3) := by decide +kernel
theorem dX1_splitLeaf_125 : decode cX1_splitLeaf 125 = .ok (.lstore 6, 2) := by decide +kernel
theorem dX1_splitLeaf_127 : decode cX1_splitLeaf 127 = .ok (.iinc 9 1, 3) := by decide +kernel
theorem dX1_splitLeaf_130 : decode cX1_splitLeaf 130 = .ok (.goto (-71), 3) := by decide +kernel
theorem dX1_splitLeaf_133 : decode cX1_splitLeaf 133 = .ok (.aload_n 0, 1) := by decide +kernel
theorem dX1_splitLeaf_134 : decode cX1_splitLeaf 134 = .ok (.iload 8, 2) := by decide +kernel
theorem dX1_splitLeaf_136 : decode cX1_splitLeaf 136 = .ok (.lload 4, 2) := by decide +kernel
theorem dX1_splitLeaf_138 : decode cX1_splitLeaf 138 = .ok (.lload 6, 2) := by decide +kernel
theorem dX1_splitLeaf_140 : decode cX1_splitLeaf 140 = .ok (.invokevirtual 150, 3) := by decide +kernel
theorem dX1_splitLeaf_143 : decode cX1_splitLeaf 143 = .ok (.ireturn, 1) := by decide +kernel
set_option maxRecDepth 20000 in
theorem ggX1_fork_X2_firstOf : GoodIn wsX1_fork wsX2_firstOf := goodIn_r _ [5, 6] (by decide +kernel) (by decide +kernel)
set_option maxRecDepth 20000 in
theorem gX1_fork_X2_firstOf : GoodIn wsX1_fork (va_wsS RX1 93 yX2_firstOf wsX2_firstOf) := goodIn_app (goodIn_of _ (by decide +kernel)) ggX1_fork_X2_firstOf
set_option maxRecDepth 20000 in
theorem ggX1_fork_X1_placeFirst : GoodIn wsX1_fork wsX1_placeFirst := goodIn_r _ [11, 12, 13, 14, 15, 10, 16, 17, 18, 19, 20, 50, 51, 52, 53, 54, 55, 56, 57, 58] (by decide +kernel) (by decide +kernel)
set_option maxRecDepth 20000 in
theorem gX1_fork_X1_placeFirst : GoodIn wsX1_fork (wsV RX1 113 RX1 yX1_placeFirst wsX1_placeFirst) := goodIn_app (goodIn_of _ (by decide +kernel)) ggX1_fork_X1_placeFirst
set_option maxRecDepth 20000 in
theorem ggX1_fork_X2_withoutFirst : GoodIn wsX1_fork wsX2_withoutFirst := goodIn_r _ [23] (by decide +kernel) (by decide +kernel)
set_option maxRecDepth 20000 in
theorem gX1_fork_X2_withoutFirst : GoodIn wsX1_fork (va_wsS RX1 98 yX2_withoutFirst wsX2_withoutFirst) := goodIn_app (goodIn_of _ (by decide +kernel)) ggX1_fork_X2_withoutFirst
set_option maxRecDepth 20000 in
theorem ggX1_fork_X0_keep : GoodIn wsX1_fork wsX0_keep := goodIn_r _ [28, 29, 30, 31, 32, 33, 27, 34, 35, 19, 36, 18, 20, 59, 60] (by decide +kernel) (by decide +kernel)
set_option maxRecDepth 20000 in
theorem gX1_fork_X0_keep : GoodIn wsX1_fork (wsV RX1 134 RX0 yX0_keep wsX0_keep) := goodIn_app (goodIn_of _ (by decide +kernel)) ggX1_fork_X0_keep
set_option maxRecDepth 20000 in
theorem ggX1_fork_X1_addBelow : GoodIn wsX1_fork wsX1_addBelow := goodIn_r _ [40, 41, 42, 35, 19, 36, 18, 20, 50, 51, 52, 53, 54, 55, 56, 57, 58] (by decide +kernel) (by decide +kernel)
set_option maxRecDepth 20000 in
theorem gX1_fork_X1_addBelow : GoodIn wsX1_fork (wsV RX1 137 RX1 yX1_addBelow wsX1_addBelow) := goodIn_app (goodIn_of _ (by decide +kernel)) ggX1_fork_X1_addBelow
set_option maxRecDepth 20000 in
theorem ggX1_fork_X1_putChild : GoodIn wsX1_fork wsX1_putChild := goodIn_r _ [46, 12, 17, 42, 47, 48, 41, 49, 35, 19, 36, 18, 20, 50, 51, 52, 53, 54, 55, 56, 57, 58] (by decide +kernel) (by decide +kernel)
set_option maxRecDepth 20000 in
theorem gX1_fork_X1_putChild : GoodIn wsX1_fork (wsV RX1 140 RX1 yX1_putChild wsX1_putChild) := goodIn_app (goodIn_of _ (by decide +kernel)) ggX1_fork_X1_putChild
theorem dX1_fork_0 : decode cX1_fork 0 = .ok (.lload_n 2, 1) := by decide +kernel
theorem dX1_fork_1 : decode cX1_fork 1 = .ok (.invokestatic 93, 3) := by decide +kernel
theorem dX1_fork_4 : decode cX1_fork 4 = .ok (.istore 6, 2) := by decide +kernel
theorem dX1_fork_6 : decode cX1_fork 6 = .ok (.lload 4, 2) := by decide +kernel
theorem dX1_fork_8 : decode cX1_fork 8 = .ok (.invokestatic 93, 3) := by decide +kernel
theorem dX1_fork_11 : decode cX1_fork 11 = .ok (.istore 7, 2) := by decide +kernel
theorem dX1_fork_13 : decode cX1_fork 13 = .ok (.aload_n 0, 1) := by decide +kernel
theorem dX1_fork_14 : decode cX1_fork 14 = .ok (.iload_n 1, 1) := by decide +kernel
theorem dX1_fork_15 : decode cX1_fork 15 = .ok (.iconst 1, 1) := by decide +kernel
theorem dX1_fork_16 : decode cX1_fork 16 = .ok (.iload 6, 2) := by decide +kernel
theorem dX1_fork_18 : decode cX1_fork 18 = .ok (.ishl, 1) := by decide +kernel
theorem dX1_fork_19 : decode cX1_fork 19 = .ok (.iconst 1, 1) := by decide +kernel
theorem dX1_fork_20 : decode cX1_fork 20 = .ok (.iload 7, 2) := by decide +kernel
theorem dX1_fork_22 : decode cX1_fork 22 = .ok (.ishl, 1) := by decide +kernel
theorem dX1_fork_23 : decode cX1_fork 23 = .ok (.ior, 1) := by decide +kernel
theorem dX1_fork_24 : decode cX1_fork 24 = .ok (.invokevirtual 113, 3) := by decide +kernel
theorem dX1_fork_27 : decode cX1_fork 27 = .ok (.ifCond .ne 5, 3) := by decide +kernel
theorem dX1_fork_30 : decode cX1_fork 30 = .ok (.iconst (-1), 1) := by decide +kernel
theorem dX1_fork_31 : decode cX1_fork 31 = .ok (.ireturn, 1) := by decide +kernel
theorem dX1_fork_32 : decode cX1_fork 32 = .ok (.aload_n 0, 1) := by decide +kernel
theorem dX1_fork_33 : decode cX1_fork 33 = .ok (.getfield 12, 3) := by decide +kernel
theorem dX1_fork_36 : decode cX1_fork 36 = .ok (.lload_n 2, 1) := by decide +kernel
theorem dX1_fork_37 : decode cX1_fork 37 = .ok (.invokestatic 98, 3) := by decide +kernel
theorem dX1_fork_40 : decode cX1_fork 40 = .ok (.invokevirtual 134, 3) := by decide +kernel
theorem dX1_fork_43 : decode cX1_fork 43 = .ok (.istore 8, 2) := by decide +kernel
theorem dX1_fork_45 : decode cX1_fork 45 = .ok (.aload_n 0, 1) := by decide +kernel
theorem dX1_fork_46 : decode cX1_fork 46 = .ok (.getfield 12, 3) := by decide +kernel
theorem dX1_fork_49 : decode cX1_fork 49 = .ok (.lload 4, 2) := by decide +kernel
theorem dX1_fork_51 : decode cX1_fork 51 = .ok (.invokestatic 98, 3) := by decide +kernel
theorem dX1_fork_54 : decode cX1_fork 54 = .ok (.invokevirtual 134, 3) := by decide +kernel
theorem dX1_fork_57 : decode cX1_fork 57 = .ok (.istore 9, 2) := by decide +kernel
theorem dX1_fork_59 : decode cX1_fork 59 = .ok (.iload 8, 2) := by decide +kernel
theorem dX1_fork_61 : decode cX1_fork 61 = .ok (.iconst (-1), 1) := by decide +kernel
theorem dX1_fork_62 : decode cX1_fork 62 = .ok (.if_icmp .eq 9, 3) := by decide +kernel
theorem dX1_fork_65 : decode cX1_fork 65 = .ok (.iload 9, 2) := by decide +kernel
theorem dX1_fork_67 : decode cX1_fork 67 = .ok (.iconst (-1), 1) := by decide +kernel
theorem dX1_fork_68 : decode cX1_fork 68 = .ok (.if_icmp .ne 5, 3) := by decide +kernel
theorem dX1_fork_71 : decode cX1_fork 71 = .ok (.iconst (-1), 1) := by decide +kernel
theorem dX1_fork_72 : decode cX1_fork 72 = .ok (.ireturn, 1) := by decide +kernel
theorem dX1_fork_73 : decode cX1_fork 73 = .ok (.aload_n 0, 1) := by decide +kernel
theorem dX1_fork_74 : decode cX1_fork 74 = .ok (.iload_n 1, 1) := by decide +kernel
theorem dX1_fork_75 : decode cX1_fork 75 = .ok (.iconst 1, 1) := by decide +kernel
theorem dX1_fork_76 : decode cX1_fork 76 = .ok (.invokevirtual 137, 3) := by decide +kernel
theorem dX1_fork_79 : decode cX1_fork 79 = .ok (.aload_n 0, 1) := by decide +kernel
theorem dX1_fork_80 : decode cX1_fork 80 = .ok (.iload_n 1, 1) := by decide +kernel
theorem dX1_fork_81 : decode cX1_fork 81 = .ok (.iload 6, 2) := by decide +kernel
theorem dX1_fork_83 : decode cX1_fork 83 = .ok (.iconst 2, 1) := by decide +kernel
theorem dX1_fork_84 : decode cX1_fork 84 = .ok (.iload 8, 2) := by decide +kernel
theorem dX1_fork_86 : decode cX1_fork 86 = .ok (.invokevirtual 140, 3) := by decide +kernel
theorem dX1_fork_89 : decode cX1_fork 89 = .ok (.pop, 1) := by decide +kernel
theorem dX1_fork_90 : decode cX1_fork 90 = .ok (.aload_n 0, 1) := by decide +kernel
theorem dX1_fork_91 : decode cX1_fork 91 = .ok (.iload_n 1, 1) := by decide +kernel
theorem dX1_fork_92 : decode cX1_fork 92 = .ok (.iload 7, 2) := by decide +kernel
theorem dX1_fork_94 : decode cX1_fork 94 = .ok (.iconst 2, 1) := by decide +kernel
theorem dX1_fork_95 : decode cX1_fork 95 = .ok (.iload 9, 2) := by decide +kernel
theorem dX1_fork_97 : decode cX1_fork 97 = .ok (.invokevirtual 140, 3) := by decide +kernel
theorem dX1_fork_100 : decode cX1_fork 100 = .ok (.ireturn, 1) := by decide +kernel
set_option maxRecDepth 20000 in
theorem ggX1_putChild_X3_at : GoodIn wsX1_putChild wsX3_at := goodIn_r _ [10] (by decide +kernel) (by decide +kernel)
set_option maxRecDepth 20000 in
theorem gX1_putChild_X3_at_n85 : GoodIn wsX1_putChild (wsX3_at) := ggX1_putChild_X3_at
set_option maxRecDepth 20000 in
theorem ggX1_putChild_X3_put : GoodIn wsX1_putChild wsX3_put := goodIn_r _ [12] (by decide +kernel) (by decide +kernel)
set_option maxRecDepth 20000 in
theorem gX1_putChild_X3_put_n50 : GoodIn wsX1_putChild (wsX3_put) := ggX1_putChild_X3_put
theorem dX1_putChild_0 : decode cX1_putChild 0 = .ok (.aload_n 0, 1) := by decide +kernel
theorem dX1_putChild_1 : decode cX1_putChild 1 = .ok (.getfield 28, 3) := by decide +kernel
theorem dX1_putChild_4 : decode cX1_putChild 4 = .ok (.iload_n 1, 1) := by decide +kernel
theorem dX1_putChild_5 : decode cX1_putChild 5 = .ok (.invokestatic 85, 3) := by decide +kernel
theorem dX1_putChild_8 : decode cX1_putChild 8 = .ok (.iload_n 2, 1) := by decide +kernel
theorem dX1_putChild_9 : decode cX1_putChild 9 = .ok (.iadd, 1) := by decide +kernel
theorem dX1_putChild_10 : decode cX1_putChild 10 = .ok (.istore 5, 2) := by decide +kernel
theorem dX1_putChild_12 : decode cX1_putChild 12 = .ok (.aload_n 0, 1) := by decide +kernel
theorem dX1_putChild_13 : decode cX1_putChild 13 = .ok (.getfield 18, 3) := by decide +kernel
theorem dX1_putChild_16 : decode cX1_putChild 16 = .ok (.iload 5, 2) := by decide +kernel
theorem dX1_putChild_18 : decode cX1_putChild 18 = .ok (.iload_n 3, 1) := by decide +kernel
theorem dX1_putChild_19 : decode cX1_putChild 19 = .ok (.invokestatic 50, 3) := by decide +kernel
theorem dX1_putChild_22 : decode cX1_putChild 22 = .ok (.aload_n 0, 1) := by decide +kernel
theorem dX1_putChild_23 : decode cX1_putChild 23 = .ok (.getfield 22, 3) := by decide +kernel
theorem dX1_putChild_26 : decode cX1_putChild 26 = .ok (.iload 5, 2) := by decide +kernel
theorem dX1_putChild_28 : decode cX1_putChild 28 = .ok (.iload_n 1, 1) := by decide +kernel
theorem dX1_putChild_29 : decode cX1_putChild 29 = .ok (.invokestatic 50, 3) := by decide +kernel
theorem dX1_putChild_32 : decode cX1_putChild 32 = .ok (.aload_n 0, 1) := by decide +kernel
theorem dX1_putChild_33 : decode cX1_putChild 33 = .ok (.getfield 25, 3) := by decide +kernel
theorem dX1_putChild_36 : decode cX1_putChild 36 = .ok (.iload 5, 2) := by decide +kernel
theorem dX1_putChild_38 : decode cX1_putChild 38 = .ok (.iload_n 2, 1) := by decide +kernel
theorem dX1_putChild_39 : decode cX1_putChild 39 = .ok (.invokestatic 50, 3) := by decide +kernel
theorem dX1_putChild_42 : decode cX1_putChild 42 = .ok (.aload_n 0, 1) := by decide +kernel
theorem dX1_putChild_43 : decode cX1_putChild 43 = .ok (.getfield 31, 3) := by decide +kernel
theorem dX1_putChild_46 : decode cX1_putChild 46 = .ok (.iload 5, 2) := by decide +kernel
theorem dX1_putChild_48 : decode cX1_putChild 48 = .ok (.iload 4, 2) := by decide +kernel
theorem dX1_putChild_50 : decode cX1_putChild 50 = .ok (.invokestatic 50, 3) := by decide +kernel
theorem dX1_putChild_53 : decode cX1_putChild 53 = .ok (.aload_n 0, 1) := by decide +kernel
theorem dX1_putChild_54 : decode cX1_putChild 54 = .ok (.getfield 37, 3) := by decide +kernel
theorem dX1_putChild_57 : decode cX1_putChild 57 = .ok (.iload 5, 2) := by decide +kernel
theorem dX1_putChild_59 : decode cX1_putChild 59 = .ok (.iconst 1, 1) := by decide +kernel
theorem dX1_putChild_60 : decode cX1_putChild 60 = .ok (.invokestatic 50, 3) := by decide +kernel
theorem dX1_putChild_63 : decode cX1_putChild 63 = .ok (.aload_n 0, 1) := by decide +kernel
theorem dX1_putChild_64 : decode cX1_putChild 64 = .ok (.getfield 34, 3) := by decide +kernel
theorem dX1_putChild_67 : decode cX1_putChild 67 = .ok (.iload_n 1, 1) := by decide +kernel
theorem dX1_putChild_68 : decode cX1_putChild 68 = .ok (.aload_n 0, 1) := by decide +kernel
theorem dX1_putChild_69 : decode cX1_putChild 69 = .ok (.getfield 34, 3) := by decide +kernel
theorem dX1_putChild_72 : decode cX1_putChild 72 = .ok (.iload_n 1, 1) := by decide +kernel
theorem dX1_putChild_73 : decode cX1_putChild 73 = .ok (.invokestatic 85, 3) := by decide +kernel
theorem dX1_putChild_76 : decode cX1_putChild 76 = .ok (.iconst 1, 1) := by decide +kernel
theorem dX1_putChild_77 : decode cX1_putChild 77 = .ok (.iload_n 2, 1) := by decide +kernel
theorem dX1_putChild_78 : decode cX1_putChild 78 = .ok (.ishl, 1) := by decide +kernel
theorem dX1_putChild_79 : decode cX1_putChild 79 = .ok (.ior, 1) := by decide +kernel
theorem dX1_putChild_80 : decode cX1_putChild 80 = .ok (.invokestatic 50, 3) := by decide +kernel
theorem dX1_putChild_83 : decode cX1_putChild 83 = .ok (.iload 5, 2) := by decide +kernel
theorem dX1_putChild_85 : decode cX1_putChild 85 = .ok (.ireturn, 1) := by decide +kernel
set_option maxRecDepth 20000 in
theorem ggX1_addBelow_X3_at : GoodIn wsX1_addBelow wsX3_at := goodIn_r _ [5] (by decide +kernel) (by decide +kernel)
set_option maxRecDepth 20000 in
theorem gX1_addBelow_X3_at_n85 : GoodIn wsX1_addBelow (wsX3_at) := ggX1_addBelow_X3_at
set_option maxRecDepth 20000 in
theorem ggX1_addBelow_X3_put : GoodIn wsX1_addBelow wsX3_put := goodIn_r _ [7] (by decide +kernel) (by decide +kernel)
set_option maxRecDepth 20000 in
theorem gX1_addBelow_X3_put_n50 : GoodIn wsX1_addBelow (wsX3_put) := ggX1_addBelow_X3_put
theorem dX1_addBelow_0 : decode cX1_addBelow 0 = .ok (.iload_n 1, 1) := by decide +kernel
theorem dX1_addBelow_1 : decode cX1_addBelow 1 = .ok (.istore_n 3, 1) := by decide +kernel
theorem dX1_addBelow_2 : decode cX1_addBelow 2 = .ok (.iconst 0, 1) := by decide +kernel
theorem dX1_addBelow_3 : decode cX1_addBelow 3 = .ok (.istore 4, 2) := by decide +kernel
theorem dX1_addBelow_5 : decode cX1_addBelow 5 = .ok (.iload 4, 2) := by decide +kernel
theorem dX1_addBelow_7 : decode cX1_addBelow 7 = .ok (.bipush 12, 2) := by decide +kernel
theorem dX1_addBelow_9 : decode cX1_addBelow 9 = .ok (.if_icmp .gt 41, 3) := by decide +kernel
theorem dX1_addBelow_12 : decode cX1_addBelow 12 = .ok (.iload_n 3, 1) := by decide +kernel
theorem dX1_addBelow_13 : decode cX1_addBelow 13 = .ok (.iconst (-1), 1) := by decide +kernel
theorem dX1_addBelow_14 : decode cX1_addBelow 14 = .ok (.if_icmp .eq 36, 3) := by decide +kernel
theorem dX1_addBelow_17 : decode cX1_addBelow 17 = .ok (.aload_n 0, 1) := by decide +kernel
theorem dX1_addBelow_18 : decode cX1_addBelow 18 = .ok (.getfield 37, 3) := by decide +kernel
theorem dX1_addBelow_21 : decode cX1_addBelow 21 = .ok (.iload_n 3, 1) := by decide +kernel
theorem dX1_addBelow_22 : decode cX1_addBelow 22 = .ok (.aload_n 0, 1) := by decide +kernel
theorem dX1_addBelow_23 : decode cX1_addBelow 23 = .ok (.getfield 37, 3) := by decide +kernel
theorem dX1_addBelow_26 : decode cX1_addBelow 26 = .ok (.iload_n 3, 1) := by decide +kernel
theorem dX1_addBelow_27 : decode cX1_addBelow 27 = .ok (.invokestatic 85, 3) := by decide +kernel
theorem dX1_addBelow_30 : decode cX1_addBelow 30 = .ok (.iload_n 2, 1) := by decide +kernel
theorem dX1_addBelow_31 : decode cX1_addBelow 31 = .ok (.iadd, 1) := by decide +kernel
theorem dX1_addBelow_32 : decode cX1_addBelow 32 = .ok (.invokestatic 50, 3) := by decide +kernel
theorem dX1_addBelow_35 : decode cX1_addBelow 35 = .ok (.aload_n 0, 1) := by decide +kernel
theorem dX1_addBelow_36 : decode cX1_addBelow 36 = .ok (.getfield 22, 3) := by decide +kernel
theorem dX1_addBelow_39 : decode cX1_addBelow 39 = .ok (.iload_n 3, 1) := by decide +kernel
theorem dX1_addBelow_40 : decode cX1_addBelow 40 = .ok (.invokestatic 85, 3) := by decide +kernel
theorem dX1_addBelow_43 : decode cX1_addBelow 43 = .ok (.istore_n 3, 1) := by decide +kernel
theorem dX1_addBelow_44 : decode cX1_addBelow 44 = .ok (.iinc 4 1, 3) := by decide +kernel
theorem dX1_addBelow_47 : decode cX1_addBelow 47 = .ok (.goto (-42), 3) := by decide +kernel
theorem dX1_addBelow_50 : decode cX1_addBelow 50 = .ok (.return_, 1) := by decide +kernel
set_option maxRecDepth 20000 in
theorem ggX1_freeLeaf_X3_at : GoodIn wsX1_freeLeaf wsX3_at := goodIn_r _ [8] (by decide +kernel) (by decide +kernel)
set_option maxRecDepth 20000 in
theorem gX1_freeLeaf_X3_at_n85 : GoodIn wsX1_freeLeaf (wsX3_at) := ggX1_freeLeaf_X3_at
set_option maxRecDepth 20000 in
theorem ggX1_freeLeaf_X0_release : GoodIn wsX1_freeLeaf wsX0_release := goodIn_r _ [13, 14, 15, 6, 7, 8, 16, 17, 43, 44] (by decide +kernel) (by decide +kernel)
set_option maxRecDepth 20000 in
theorem gX1_freeLeaf_X0_release : GoodIn wsX1_freeLeaf (wsV RX1 147 RX0 yX0_release wsX0_release) := goodIn_app (goodIn_of _ (by decide +kernel)) ggX1_freeLeaf_X0_release
set_option maxRecDepth 20000 in
theorem ggX1_freeLeaf_X1_addBelow : GoodIn wsX1_freeLeaf wsX1_addBelow := goodIn_r _ [22, 23, 3, 6, 7, 8, 16, 17, 34, 35, 36, 37, 38, 39, 40, 41, 42] (by decide +kernel) (by decide +kernel)
set_option maxRecDepth 20000 in
theorem gX1_freeLeaf_X1_addBelow : GoodIn wsX1_freeLeaf (wsV RX1 137 RX1 yX1_addBelow wsX1_addBelow) := goodIn_app (goodIn_of _ (by decide +kernel)) ggX1_freeLeaf_X1_addBelow
set_option maxRecDepth 20000 in
theorem ggX1_freeLeaf_X1_loseChild : GoodIn wsX1_freeLeaf wsX1_loseChild := goodIn_r _ [27, 4, 28, 6, 7, 8, 16, 17, 34, 35, 36, 37, 38, 39, 40, 41, 42] (by decide +kernel) (by decide +kernel)
set_option maxRecDepth 20000 in
theorem gX1_freeLeaf_X1_loseChild : GoodIn wsX1_freeLeaf (wsV RX1 154 RX1 yX1_loseChild wsX1_loseChild) := goodIn_app (goodIn_of _ (by decide +kernel)) ggX1_freeLeaf_X1_loseChild
set_option maxRecDepth 20000 in
theorem ggX1_freeLeaf_X1_clearCell : GoodIn wsX1_freeLeaf wsX1_clearCell := goodIn_r _ [32, 33, 3, 5, 28, 2, 4, 23, 16, 7, 17, 34, 35, 36, 37, 38, 39, 40, 41, 42] (by decide +kernel) (by decide +kernel)
set_option maxRecDepth 20000 in
theorem gX1_freeLeaf_X1_clearCell : GoodIn wsX1_freeLeaf (wsV RX1 54 RX1 yX1_clearCell wsX1_clearCell) := goodIn_app (goodIn_of _ (by decide +kernel)) ggX1_freeLeaf_X1_clearCell
theorem dX1_freeLeaf_0 : decode cX1_freeLeaf 0 = .ok (.aload_n 0, 1) := by decide +kernel
theorem dX1_freeLeaf_1 : decode cX1_freeLeaf 1 = .ok (.getfield 12, 3) := by decide +kernel
theorem dX1_freeLeaf_4 : decode cX1_freeLeaf 4 = .ok (.aload_n 0, 1) := by decide +kernel
theorem dX1_freeLeaf_5 : decode cX1_freeLeaf 5 = .ok (.getfield 31, 3) := by decide +kernel
theorem dX1_freeLeaf_8 : decode cX1_freeLeaf 8 = .ok (.iload_n 1, 1) := by decide +kernel
theorem dX1_freeLeaf_9 : decode cX1_freeLeaf 9 = .ok (.invokestatic 85, 3) := by decide +kernel
theorem dX1_freeLeaf_12 : decode cX1_freeLeaf 12 = .ok (.invokevirtual 147, 3) := by decide +kernel
theorem dX1_freeLeaf_15 : decode cX1_freeLeaf 15 = .ok (.aload_n 0, 1) := by decide +kernel
theorem dX1_freeLeaf_16 : decode cX1_freeLeaf 16 = .ok (.aload_n 0, 1) := by decide +kernel
theorem dX1_freeLeaf_17 : decode cX1_freeLeaf 17 = .ok (.getfield 22, 3) := by decide +kernel
theorem dX1_freeLeaf_20 : decode cX1_freeLeaf 20 = .ok (.iload_n 1, 1) := by decide +kernel
theorem dX1_freeLeaf_21 : decode cX1_freeLeaf 21 = .ok (.invokestatic 85, 3) := by decide +kernel
theorem dX1_freeLeaf_24 : decode cX1_freeLeaf 24 = .ok (.iconst (-1), 1) := by decide +kernel
theorem dX1_freeLeaf_25 : decode cX1_freeLeaf 25 = .ok (.invokevirtual 137, 3) := by decide +kernel
theorem dX1_freeLeaf_28 : decode cX1_freeLeaf 28 = .ok (.iconst 0, 1) := by decide +kernel
theorem dX1_freeLeaf_29 : decode cX1_freeLeaf 29 = .ok (.istore_n 2, 1) := by decide +kernel
theorem dX1_freeLeaf_30 : decode cX1_freeLeaf 30 = .ok (.iload_n 1, 1) := by decide +kernel
theorem dX1_freeLeaf_31 : decode cX1_freeLeaf 31 = .ok (.istore_n 3, 1) := by decide +kernel
theorem dX1_freeLeaf_32 : decode cX1_freeLeaf 32 = .ok (.iconst 0, 1) := by decide +kernel
theorem dX1_freeLeaf_33 : decode cX1_freeLeaf 33 = .ok (.istore 4, 2) := by decide +kernel
theorem dX1_freeLeaf_35 : decode cX1_freeLeaf 35 = .ok (.iload 4, 2) := by decide +kernel
theorem dX1_freeLeaf_37 : decode cX1_freeLeaf 37 = .ok (.bipush 12, 2) := by decide +kernel
theorem dX1_freeLeaf_39 : decode cX1_freeLeaf 39 = .ok (.if_icmp .gt 59, 3) := by decide +kernel
theorem dX1_freeLeaf_42 : decode cX1_freeLeaf 42 = .ok (.iload_n 3, 1) := by decide +kernel
theorem dX1_freeLeaf_43 : decode cX1_freeLeaf 43 = .ok (.ifCond .le 55, 3) := by decide +kernel
theorem dX1_freeLeaf_46 : decode cX1_freeLeaf 46 = .ok (.aload_n 0, 1) := by decide +kernel
theorem dX1_freeLeaf_47 : decode cX1_freeLeaf 47 = .ok (.getfield 34, 3) := by decide +kernel
theorem dX1_freeLeaf_50 : decode cX1_freeLeaf 50 = .ok (.iload_n 3, 1) := by decide +kernel
theorem dX1_freeLeaf_51 : decode cX1_freeLeaf 51 = .ok (.invokestatic 85, 3) := by decide +kernel
theorem dX1_freeLeaf_54 : decode cX1_freeLeaf 54 = .ok (.ifCond .ne 44, 3) := by decide +kernel
theorem dX1_freeLeaf_57 : decode cX1_freeLeaf 57 = .ok (.aload_n 0, 1) := by decide +kernel
theorem dX1_freeLeaf_58 : decode cX1_freeLeaf 58 = .ok (.getfield 22, 3) := by decide +kernel
theorem dX1_freeLeaf_61 : decode cX1_freeLeaf 61 = .ok (.iload_n 3, 1) := by decide +kernel
theorem dX1_freeLeaf_62 : decode cX1_freeLeaf 62 = .ok (.invokestatic 85, 3) := by decide +kernel
theorem dX1_freeLeaf_65 : decode cX1_freeLeaf 65 = .ok (.istore 5, 2) := by decide +kernel
theorem dX1_freeLeaf_67 : decode cX1_freeLeaf 67 = .ok (.aload_n 0, 1) := by decide +kernel
theorem dX1_freeLeaf_68 : decode cX1_freeLeaf 68 = .ok (.iload 5, 2) := by decide +kernel
theorem dX1_freeLeaf_70 : decode cX1_freeLeaf 70 = .ok (.aload_n 0, 1) := by decide +kernel
theorem dX1_freeLeaf_71 : decode cX1_freeLeaf 71 = .ok (.getfield 25, 3) := by decide +kernel
theorem dX1_freeLeaf_74 : decode cX1_freeLeaf 74 = .ok (.iload_n 3, 1) := by decide +kernel
theorem dX1_freeLeaf_75 : decode cX1_freeLeaf 75 = .ok (.invokestatic 85, 3) := by decide +kernel
theorem dX1_freeLeaf_78 : decode cX1_freeLeaf 78 = .ok (.invokevirtual 154, 3) := by decide +kernel
theorem dX1_freeLeaf_81 : decode cX1_freeLeaf 81 = .ok (.aload_n 0, 1) := by decide +kernel
theorem dX1_freeLeaf_82 : decode cX1_freeLeaf 82 = .ok (.iload_n 3, 1) := by decide +kernel
theorem dX1_freeLeaf_83 : decode cX1_freeLeaf 83 = .ok (.invokevirtual 54, 3) := by decide +kernel
theorem dX1_freeLeaf_86 : decode cX1_freeLeaf 86 = .ok (.iinc 2 1, 3) := by decide +kernel
theorem dX1_freeLeaf_89 : decode cX1_freeLeaf 89 = .ok (.iload 5, 2) := by decide +kernel
theorem dX1_freeLeaf_91 : decode cX1_freeLeaf 91 = .ok (.istore_n 3, 1) := by decide +kernel
theorem dX1_freeLeaf_92 : decode cX1_freeLeaf 92 = .ok (.iinc 4 1, 3) := by decide +kernel
theorem dX1_freeLeaf_95 : decode cX1_freeLeaf 95 = .ok (.goto (-60), 3) := by decide +kernel
theorem dX1_freeLeaf_98 : decode cX1_freeLeaf 98 = .ok (.iload_n 2, 1) := by decide +kernel
theorem dX1_freeLeaf_99 : decode cX1_freeLeaf 99 = .ok (.ireturn, 1) := by decide +kernel
set_option maxRecDepth 20000 in
theorem ggX1_loseChild_X3_at : GoodIn wsX1_loseChild wsX3_at := goodIn_r _ [5] (by decide +kernel) (by decide +kernel)
set_option maxRecDepth 20000 in
theorem gX1_loseChild_X3_at_n85 : GoodIn wsX1_loseChild (wsX3_at) := ggX1_loseChild_X3_at
set_option maxRecDepth 20000 in
theorem ggX1_loseChild_X3_put : GoodIn wsX1_loseChild wsX3_put := goodIn_r _ [7] (by decide +kernel) (by decide +kernel)
set_option maxRecDepth 20000 in
theorem gX1_loseChild_X3_put_n50 : GoodIn wsX1_loseChild (wsX3_put) := ggX1_loseChild_X3_put
theorem dX1_loseChild_0 : decode cX1_loseChild 0 = .ok (.aload_n 0, 1) := by decide +kernel
theorem dX1_loseChild_1 : decode cX1_loseChild 1 = .ok (.getfield 34, 3) := by decide +kernel
theorem dX1_loseChild_4 : decode cX1_loseChild 4 = .ok (.iload_n 1, 1) := by decide +kernel
theorem dX1_loseChild_5 : decode cX1_loseChild 5 = .ok (.invokestatic 85, 3) := by decide +kernel
theorem dX1_loseChild_8 : decode cX1_loseChild 8 = .ok (.iconst 1, 1) := by decide +kernel
theorem dX1_loseChild_9 : decode cX1_loseChild 9 = .ok (.iload_n 2, 1) := by decide +kernel
theorem dX1_loseChild_10 : decode cX1_loseChild 10 = .ok (.ishl, 1) := by decide +kernel
theorem dX1_loseChild_11 : decode cX1_loseChild 11 = .ok (.iconst (-1), 1) := by decide +kernel
theorem dX1_loseChild_12 : decode cX1_loseChild 12 = .ok (.ixor, 1) := by decide +kernel
theorem dX1_loseChild_13 : decode cX1_loseChild 13 = .ok (.iand, 1) := by decide +kernel
theorem dX1_loseChild_14 : decode cX1_loseChild 14 = .ok (.istore_n 3, 1) := by decide +kernel
theorem dX1_loseChild_15 : decode cX1_loseChild 15 = .ok (.aload_n 0, 1) := by decide +kernel
theorem dX1_loseChild_16 : decode cX1_loseChild 16 = .ok (.getfield 34, 3) := by decide +kernel
theorem dX1_loseChild_19 : decode cX1_loseChild 19 = .ok (.iload_n 1, 1) := by decide +kernel
theorem dX1_loseChild_20 : decode cX1_loseChild 20 = .ok (.iload_n 3, 1) := by decide +kernel
theorem dX1_loseChild_21 : decode cX1_loseChild 21 = .ok (.invokestatic 50, 3) := by decide +kernel
theorem dX1_loseChild_24 : decode cX1_loseChild 24 = .ok (.iload_n 3, 1) := by decide +kernel
theorem dX1_loseChild_25 : decode cX1_loseChild 25 = .ok (.ifCond .ne 12, 3) := by decide +kernel
theorem dX1_loseChild_28 : decode cX1_loseChild 28 = .ok (.aload_n 0, 1) := by decide +kernel
theorem dX1_loseChild_29 : decode cX1_loseChild 29 = .ok (.getfield 28, 3) := by decide +kernel
theorem dX1_loseChild_32 : decode cX1_loseChild 32 = .ok (.iload_n 1, 1) := by decide +kernel
theorem dX1_loseChild_33 : decode cX1_loseChild 33 = .ok (.iconst 0, 1) := by decide +kernel
theorem dX1_loseChild_34 : decode cX1_loseChild 34 = .ok (.invokestatic 50, 3) := by decide +kernel
theorem dX1_loseChild_37 : decode cX1_loseChild 37 = .ok (.return_, 1) := by decide +kernel
set_option maxRecDepth 20000 in
theorem ggX1_childOf_X3_at : GoodIn wsX1_childOf wsX3_at := goodIn_r _ [5] (by decide +kernel) (by decide +kernel)
set_option maxRecDepth 20000 in
theorem gX1_childOf_X3_at_n85 : GoodIn wsX1_childOf (wsX3_at) := ggX1_childOf_X3_at
theorem dX1_childOf_0 : decode cX1_childOf 0 = .ok (.aload_n 0, 1) := by decide +kernel
theorem dX1_childOf_1 : decode cX1_childOf 1 = .ok (.getfield 34, 3) := by decide +kernel
theorem dX1_childOf_4 : decode cX1_childOf 4 = .ok (.iload_n 1, 1) := by decide +kernel
theorem dX1_childOf_5 : decode cX1_childOf 5 = .ok (.invokestatic 85, 3) := by decide +kernel
theorem dX1_childOf_8 : decode cX1_childOf 8 = .ok (.iload_n 2, 1) := by decide +kernel
theorem dX1_childOf_9 : decode cX1_childOf 9 = .ok (.ishr, 1) := by decide +kernel
theorem dX1_childOf_10 : decode cX1_childOf 10 = .ok (.iconst 1, 1) := by decide +kernel
theorem dX1_childOf_11 : decode cX1_childOf 11 = .ok (.iand, 1) := by decide +kernel
theorem dX1_childOf_12 : decode cX1_childOf 12 = .ok (.ifCond .ne 7, 3) := by decide +kernel
theorem dX1_childOf_15 : decode cX1_childOf 15 = .ok (.iconst (-1), 1) := by decide +kernel
theorem dX1_childOf_16 : decode cX1_childOf 16 = .ok (.goto 13, 3) := by decide +kernel
theorem dX1_childOf_19 : decode cX1_childOf 19 = .ok (.aload_n 0, 1) := by decide +kernel
theorem dX1_childOf_20 : decode cX1_childOf 20 = .ok (.getfield 28, 3) := by decide +kernel
theorem dX1_childOf_23 : decode cX1_childOf 23 = .ok (.iload_n 1, 1) := by decide +kernel
theorem dX1_childOf_24 : decode cX1_childOf 24 = .ok (.invokestatic 85, 3) := by decide +kernel
theorem dX1_childOf_27 : decode cX1_childOf 27 = .ok (.iload_n 2, 1) := by decide +kernel
theorem dX1_childOf_28 : decode cX1_childOf 28 = .ok (.iadd, 1) := by decide +kernel
theorem dX1_childOf_29 : decode cX1_childOf 29 = .ok (.ireturn, 1) := by decide +kernel
set_option maxRecDepth 20000 in
theorem ggX1_childrenOf_X3_at : GoodIn wsX1_childrenOf wsX3_at := goodIn_r _ [4] (by decide +kernel) (by decide +kernel)
set_option maxRecDepth 20000 in
theorem gX1_childrenOf_X3_at_n85 : GoodIn wsX1_childrenOf (wsX3_at) := ggX1_childrenOf_X3_at
set_option maxRecDepth 20000 in
theorem ggX1_childrenOf_J6_bitCount_0f7a4 : GoodIn wsX1_childrenOf wsJ6_bitCount_0f7a4 := goodIn_r _ [8, 9, 10, 11] (by decide +kernel) (by decide +kernel)
set_option maxRecDepth 20000 in
theorem gX1_childrenOf_J6_bitCount_0f7a4 : GoodIn wsX1_childrenOf (va_wsS RX1 157 yJ6_bitCount_0f7a4 wsJ6_bitCount_0f7a4) := goodIn_app (goodIn_of _ (by decide +kernel)) ggX1_childrenOf_J6_bitCount_0f7a4
theorem dX1_childrenOf_0 : decode cX1_childrenOf 0 = .ok (.aload_n 0, 1) := by decide +kernel
theorem dX1_childrenOf_1 : decode cX1_childrenOf 1 = .ok (.getfield 34, 3) := by decide +kernel
theorem dX1_childrenOf_4 : decode cX1_childrenOf 4 = .ok (.iload_n 1, 1) := by decide +kernel
theorem dX1_childrenOf_5 : decode cX1_childrenOf 5 = .ok (.invokestatic 85, 3) := by decide +kernel
theorem dX1_childrenOf_8 : decode cX1_childrenOf 8 = .ok (.invokestatic 157, 3) := by decide +kernel
theorem dX1_childrenOf_11 : decode cX1_childrenOf 11 = .ok (.ireturn, 1) := by decide +kernel
set_option maxRecDepth 20000 in
theorem ggX1_endOf_X3_at : GoodIn wsX1_endOf wsX3_at := goodIn_r _ [5] (by decide +kernel) (by decide +kernel)
set_option maxRecDepth 20000 in
theorem gX1_endOf_X3_at_n85 : GoodIn wsX1_endOf (wsX3_at) := ggX1_endOf_X3_at
set_option maxRecDepth 20000 in
theorem ggX1_endOf_X0_textAt : GoodIn wsX1_endOf wsX0_textAt := goodIn_r _ [10, 11, 21, 22] (by decide +kernel) (by decide +kernel)
set_option maxRecDepth 20000 in
theorem gX1_endOf_X0_textAt : GoodIn wsX1_endOf (wsV RX1 144 RX0 yX0_textAt wsX0_textAt) := goodIn_app (goodIn_of _ (by decide +kernel)) ggX1_endOf_X0_textAt
theorem dX1_endOf_0 : decode cX1_endOf 0 = .ok (.aload_n 0, 1) := by decide +kernel
theorem dX1_endOf_1 : decode cX1_endOf 1 = .ok (.getfield 12, 3) := by decide +kernel
theorem dX1_endOf_4 : decode cX1_endOf 4 = .ok (.aload_n 0, 1) := by decide +kernel
theorem dX1_endOf_5 : decode cX1_endOf 5 = .ok (.getfield 31, 3) := by decide +kernel
theorem dX1_endOf_8 : decode cX1_endOf 8 = .ok (.iload_n 1, 1) := by decide +kernel
theorem dX1_endOf_9 : decode cX1_endOf 9 = .ok (.invokestatic 85, 3) := by decide +kernel
theorem dX1_endOf_12 : decode cX1_endOf 12 = .ok (.invokevirtual 144, 3) := by decide +kernel
theorem dX1_endOf_15 : decode cX1_endOf 15 = .ok (.lreturn, 1) := by decide +kernel
set_option maxRecDepth 20000 in
theorem ggX1_propertyOf_X3_at : GoodIn wsX1_propertyOf wsX3_at := goodIn_r _ [9] (by decide +kernel) (by decide +kernel)
set_option maxRecDepth 20000 in
theorem gX1_propertyOf_X3_at_n85 : GoodIn wsX1_propertyOf (wsX3_at) := ggX1_propertyOf_X3_at
set_option maxRecDepth 20000 in
theorem ggX1_propertyOf_X1_childrenOf : GoodIn wsX1_propertyOf wsX1_childrenOf := goodIn_r _ [14, 15, 7, 8, 9, 16, 17, 18, 19, 20, 21, 22, 23, 24, 25, 26, 27, 28, 29, 30, 31] (by decide +kernel) (by decide +kernel)
set_option maxRecDepth 20000 in
theorem gX1_propertyOf_X1_childrenOf : GoodIn wsX1_propertyOf (wsV RX1 117 RX1 yX1_childrenOf wsX1_childrenOf) := goodIn_app (goodIn_of _ (by decide +kernel)) ggX1_propertyOf_X1_childrenOf
theorem dX1_propertyOf_0 : decode cX1_propertyOf 0 = .ok (.iload_n 2, 1) := by decide +kernel
theorem dX1_propertyOf_1 : decode cX1_propertyOf 1 = .ok (.tableswitch 90 0 5 #[39, 48, 57, 66, 75, 84], 39) := by decide +kernel
theorem dX1_propertyOf_40 : decode cX1_propertyOf 40 = .ok (.aload_n 0, 1) := by decide +kernel
theorem dX1_propertyOf_41 : decode cX1_propertyOf 41 = .ok (.getfield 18, 3) := by decide +kernel
theorem dX1_propertyOf_44 : decode cX1_propertyOf 44 = .ok (.iload_n 1, 1) := by decide +kernel
theorem dX1_propertyOf_45 : decode cX1_propertyOf 45 = .ok (.invokestatic 85, 3) := by decide +kernel
theorem dX1_propertyOf_48 : decode cX1_propertyOf 48 = .ok (.ireturn, 1) := by decide +kernel
theorem dX1_propertyOf_49 : decode cX1_propertyOf 49 = .ok (.aload_n 0, 1) := by decide +kernel
theorem dX1_propertyOf_50 : decode cX1_propertyOf 50 = .ok (.getfield 22, 3) := by decide +kernel
theorem dX1_propertyOf_53 : decode cX1_propertyOf 53 = .ok (.iload_n 1, 1) := by decide +kernel
theorem dX1_propertyOf_54 : decode cX1_propertyOf 54 = .ok (.invokestatic 85, 3) := by decide +kernel
theorem dX1_propertyOf_57 : decode cX1_propertyOf 57 = .ok (.ireturn, 1) := by decide +kernel
theorem dX1_propertyOf_58 : decode cX1_propertyOf 58 = .ok (.aload_n 0, 1) := by decide +kernel
theorem dX1_propertyOf_59 : decode cX1_propertyOf 59 = .ok (.getfield 25, 3) := by decide +kernel
theorem dX1_propertyOf_62 : decode cX1_propertyOf 62 = .ok (.iload_n 1, 1) := by decide +kernel
theorem dX1_propertyOf_63 : decode cX1_propertyOf 63 = .ok (.invokestatic 85, 3) := by decide +kernel
theorem dX1_propertyOf_66 : decode cX1_propertyOf 66 = .ok (.ireturn, 1) := by decide +kernel
theorem dX1_propertyOf_67 : decode cX1_propertyOf 67 = .ok (.aload_n 0, 1) := by decide +kernel
theorem dX1_propertyOf_68 : decode cX1_propertyOf 68 = .ok (.getfield 28, 3) := by decide +kernel
theorem dX1_propertyOf_71 : decode cX1_propertyOf 71 = .ok (.iload_n 1, 1) := by decide +kernel
theorem dX1_propertyOf_72 : decode cX1_propertyOf 72 = .ok (.invokestatic 85, 3) := by decide +kernel
theorem dX1_propertyOf_75 : decode cX1_propertyOf 75 = .ok (.ireturn, 1) := by decide +kernel
theorem dX1_propertyOf_76 : decode cX1_propertyOf 76 = .ok (.aload_n 0, 1) := by decide +kernel
theorem dX1_propertyOf_77 : decode cX1_propertyOf 77 = .ok (.getfield 31, 3) := by decide +kernel
theorem dX1_propertyOf_80 : decode cX1_propertyOf 80 = .ok (.iload_n 1, 1) := by decide +kernel
theorem dX1_propertyOf_81 : decode cX1_propertyOf 81 = .ok (.invokestatic 85, 3) := by decide +kernel
theorem dX1_propertyOf_84 : decode cX1_propertyOf 84 = .ok (.ireturn, 1) := by decide +kernel
theorem dX1_propertyOf_85 : decode cX1_propertyOf 85 = .ok (.aload_n 0, 1) := by decide +kernel
theorem dX1_propertyOf_86 : decode cX1_propertyOf 86 = .ok (.iload_n 1, 1) := by decide +kernel
theorem dX1_propertyOf_87 : decode cX1_propertyOf 87 = .ok (.invokevirtual 117, 3) := by decide +kernel
theorem dX1_propertyOf_90 : decode cX1_propertyOf 90 = .ok (.ireturn, 1) := by decide +kernel
theorem dX1_propertyOf_91 : decode cX1_propertyOf 91 = .ok (.aload_n 0, 1) := by decide +kernel
theorem dX1_propertyOf_92 : decode cX1_propertyOf 92 = .ok (.getfield 37, 3) := by decide +kernel
theorem dX1_propertyOf_95 : decode cX1_propertyOf 95 = .ok (.iload_n 1, 1) := by decide +kernel
theorem dX1_propertyOf_96 : decode cX1_propertyOf 96 = .ok (.invokestatic 85, 3) := by decide +kernel
theorem dX1_propertyOf_99 : decode cX1_propertyOf 99 = .ok (.ireturn, 1) := by decide +kernel
set_option maxRecDepth 20000 in
theorem ggX1_words_X3_at : GoodIn wsX1_words wsX3_at := goodIn_r _ [4] (by decide +kernel) (by decide +kernel)
set_option maxRecDepth 20000 in
theorem gX1_words_X3_at_n85 : GoodIn wsX1_words (wsX3_at) := ggX1_words_X3_at
theorem dX1_words_0 : decode cX1_words 0 = .ok (.aload_n 0, 1) := by decide +kernel
theorem dX1_words_1 : decode cX1_words 1 = .ok (.getfield 37, 3) := by decide +kernel
theorem dX1_words_4 : decode cX1_words 4 = .ok (.iconst 0, 1) := by decide +kernel
theorem dX1_words_5 : decode cX1_words 5 = .ok (.invokestatic 85, 3) := by decide +kernel
theorem dX1_words_8 : decode cX1_words 8 = .ok (.ireturn, 1) := by decide +kernel
theorem dX1_usedCells_0 : decode cX1_usedCells 0 = .ok (.iconst 0, 1) := by decide +kernel
theorem dX1_usedCells_1 : decode cX1_usedCells 1 = .ok (.istore_n 1, 1) := by decide +kernel
theorem dX1_usedCells_2 : decode cX1_usedCells 2 = .ok (.iconst 0, 1) := by decide +kernel
theorem dX1_usedCells_3 : decode cX1_usedCells 3 = .ok (.istore_n 2, 1) := by decide +kernel
theorem dX1_usedCells_4 : decode cX1_usedCells 4 = .ok (.iload_n 2, 1) := by decide +kernel
theorem dX1_usedCells_5 : decode cX1_usedCells 5 = .ok (.aload_n 0, 1) := by decide +kernel
theorem dX1_usedCells_6 : decode cX1_usedCells 6 = .ok (.getfield 18, 3) := by decide +kernel
theorem dX1_usedCells_9 : decode cX1_usedCells 9 = .ok (.arraylength, 1) := by decide +kernel
theorem dX1_usedCells_10 : decode cX1_usedCells 10 = .ok (.if_icmp .ge 21, 3) := by decide +kernel
theorem dX1_usedCells_13 : decode cX1_usedCells 13 = .ok (.aload_n 0, 1) := by decide +kernel
theorem dX1_usedCells_14 : decode cX1_usedCells 14 = .ok (.getfield 18, 3) := by decide +kernel
theorem dX1_usedCells_17 : decode cX1_usedCells 17 = .ok (.iload_n 2, 1) := by decide +kernel
theorem dX1_usedCells_18 : decode cX1_usedCells 18 = .ok (.iaload, 1) := by decide +kernel
theorem dX1_usedCells_19 : decode cX1_usedCells 19 = .ok (.ifCond .eq 6, 3) := by decide +kernel
theorem dX1_usedCells_22 : decode cX1_usedCells 22 = .ok (.iinc 1 1, 3) := by decide +kernel
theorem dX1_usedCells_25 : decode cX1_usedCells 25 = .ok (.iinc 2 1, 3) := by decide +kernel
theorem dX1_usedCells_28 : decode cX1_usedCells 28 = .ok (.goto (-24), 3) := by decide +kernel
theorem dX1_usedCells_31 : decode cX1_usedCells 31 = .ok (.iload_n 1, 1) := by decide +kernel
theorem dX1_usedCells_32 : decode cX1_usedCells 32 = .ok (.ireturn, 1) := by decide +kernel
theorem dX1_innerCells_0 : decode cX1_innerCells 0 = .ok (.iconst 0, 1) := by decide +kernel
theorem dX1_innerCells_1 : decode cX1_innerCells 1 = .ok (.istore_n 1, 1) := by decide +kernel
theorem dX1_innerCells_2 : decode cX1_innerCells 2 = .ok (.iconst 0, 1) := by decide +kernel
theorem dX1_innerCells_3 : decode cX1_innerCells 3 = .ok (.istore_n 2, 1) := by decide +kernel
theorem dX1_innerCells_4 : decode cX1_innerCells 4 = .ok (.iload_n 2, 1) := by decide +kernel
theorem dX1_innerCells_5 : decode cX1_innerCells 5 = .ok (.aload_n 0, 1) := by decide +kernel
theorem dX1_innerCells_6 : decode cX1_innerCells 6 = .ok (.getfield 18, 3) := by decide +kernel
theorem dX1_innerCells_9 : decode cX1_innerCells 9 = .ok (.arraylength, 1) := by decide +kernel
theorem dX1_innerCells_10 : decode cX1_innerCells 10 = .ok (.if_icmp .ge 22, 3) := by decide +kernel
theorem dX1_innerCells_13 : decode cX1_innerCells 13 = .ok (.aload_n 0, 1) := by decide +kernel
theorem dX1_innerCells_14 : decode cX1_innerCells 14 = .ok (.getfield 18, 3) := by decide +kernel
theorem dX1_innerCells_17 : decode cX1_innerCells 17 = .ok (.iload_n 2, 1) := by decide +kernel
theorem dX1_innerCells_18 : decode cX1_innerCells 18 = .ok (.iaload, 1) := by decide +kernel
theorem dX1_innerCells_19 : decode cX1_innerCells 19 = .ok (.iconst 1, 1) := by decide +kernel
theorem dX1_innerCells_20 : decode cX1_innerCells 20 = .ok (.if_icmp .ne 6, 3) := by decide +kernel
theorem dX1_innerCells_23 : decode cX1_innerCells 23 = .ok (.iinc 1 1, 3) := by decide +kernel
theorem dX1_innerCells_26 : decode cX1_innerCells 26 = .ok (.iinc 2 1, 3) := by decide +kernel
theorem dX1_innerCells_29 : decode cX1_innerCells 29 = .ok (.goto (-25), 3) := by decide +kernel
theorem dX1_innerCells_32 : decode cX1_innerCells 32 = .ok (.iload_n 1, 1) := by decide +kernel
theorem dX1_innerCells_33 : decode cX1_innerCells 33 = .ok (.ireturn, 1) := by decide +kernel
theorem dX1_greatestUsed_0 : decode cX1_greatestUsed 0 = .ok (.iconst 0, 1) := by decide +kernel
theorem dX1_greatestUsed_1 : decode cX1_greatestUsed 1 = .ok (.istore_n 1, 1) := by decide +kernel
theorem dX1_greatestUsed_2 : decode cX1_greatestUsed 2 = .ok (.iconst 0, 1) := by decide +kernel
theorem dX1_greatestUsed_3 : decode cX1_greatestUsed 3 = .ok (.istore_n 2, 1) := by decide +kernel
theorem dX1_greatestUsed_4 : decode cX1_greatestUsed 4 = .ok (.iload_n 2, 1) := by decide +kernel
theorem dX1_greatestUsed_5 : decode cX1_greatestUsed 5 = .ok (.aload_n 0, 1) := by decide +kernel
theorem dX1_greatestUsed_6 : decode cX1_greatestUsed 6 = .ok (.getfield 18, 3) := by decide +kernel
theorem dX1_greatestUsed_9 : decode cX1_greatestUsed 9 = .ok (.arraylength, 1) := by decide +kernel
theorem dX1_greatestUsed_10 : decode cX1_greatestUsed 10 = .ok (.if_icmp .ge 20, 3) := by decide +kernel
theorem dX1_greatestUsed_13 : decode cX1_greatestUsed 13 = .ok (.aload_n 0, 1) := by decide +kernel
theorem dX1_greatestUsed_14 : decode cX1_greatestUsed 14 = .ok (.getfield 18, 3) := by decide +kernel
theorem dX1_greatestUsed_17 : decode cX1_greatestUsed 17 = .ok (.iload_n 2, 1) := by decide +kernel
theorem dX1_greatestUsed_18 : decode cX1_greatestUsed 18 = .ok (.iaload, 1) := by decide +kernel
theorem dX1_greatestUsed_19 : decode cX1_greatestUsed 19 = .ok (.ifCond .eq 5, 3) := by decide +kernel
theorem dX1_greatestUsed_22 : decode cX1_greatestUsed 22 = .ok (.iload_n 2, 1) := by decide +kernel
theorem dX1_greatestUsed_23 : decode cX1_greatestUsed 23 = .ok (.istore_n 1, 1) := by decide +kernel
theorem dX1_greatestUsed_24 : decode cX1_greatestUsed 24 = .ok (.iinc 2 1, 3) := by decide +kernel
theorem dX1_greatestUsed_27 : decode cX1_greatestUsed 27 = .ok (.goto (-23), 3) := by decide +kernel
theorem dX1_greatestUsed_30 : decode cX1_greatestUsed 30 = .ok (.iload_n 1, 1) := by decide +kernel
theorem dX1_greatestUsed_31 : decode cX1_greatestUsed 31 = .ok (.ireturn, 1) := by decide +kernel
set_option maxRecDepth 20000 in
theorem ggX1_lettersOfWords_X3_at : GoodIn wsX1_lettersOfWords wsX3_at := goodIn_r _ [6] (by decide +kernel) (by decide +kernel)
set_option maxRecDepth 20000 in
theorem gX1_lettersOfWords_X3_at_n85 : GoodIn wsX1_lettersOfWords (wsX3_at) := ggX1_lettersOfWords_X3_at
set_option maxRecDepth 20000 in
theorem ggX1_lettersOfWords_X1_endOf : GoodIn wsX1_lettersOfWords wsX1_endOf := goodIn_r _ [11, 12, 13, 4, 5, 6, 14, 15, 16, 17, 18, 19, 31, 32, 33, 34, 35, 36, 37, 38, 39, 40, 41] (by decide +kernel) (by decide +kernel)
set_option maxRecDepth 20000 in
theorem gX1_lettersOfWords_X1_endOf : GoodIn wsX1_lettersOfWords (wsV RX1 162 RX1 yX1_endOf wsX1_endOf) := goodIn_app (goodIn_of _ (by decide +kernel)) ggX1_lettersOfWords_X1_endOf
set_option maxRecDepth 20000 in
theorem ggX1_lettersOfWords_X2_lengthOf : GoodIn wsX1_lettersOfWords wsX2_lengthOf := goodIn_r _ [23, 24, 25, 22, 26, 27, 28, 29, 30] (by decide +kernel) (by decide +kernel)
set_option maxRecDepth 20000 in
theorem gX1_lettersOfWords_X2_lengthOf : GoodIn wsX1_lettersOfWords (va_wsS RX1 165 yX2_lengthOf wsX2_lengthOf) := goodIn_app (goodIn_of _ (by decide +kernel)) ggX1_lettersOfWords_X2_lengthOf
theorem dX1_lettersOfWords_0 : decode cX1_lettersOfWords 0 = .ok (.iconst 0, 1) := by decide +kernel
theorem dX1_lettersOfWords_1 : decode cX1_lettersOfWords 1 = .ok (.istore_n 1, 1) := by decide +kernel
theorem dX1_lettersOfWords_2 : decode cX1_lettersOfWords 2 = .ok (.iconst 0, 1) := by decide +kernel
theorem dX1_lettersOfWords_3 : decode cX1_lettersOfWords 3 = .ok (.istore_n 2, 1) := by decide +kernel
theorem dX1_lettersOfWords_4 : decode cX1_lettersOfWords 4 = .ok (.iload_n 2, 1) := by decide +kernel
theorem dX1_lettersOfWords_5 : decode cX1_lettersOfWords 5 = .ok (.sipush 160, 3) := by decide +kernel
theorem dX1_lettersOfWords_8 : decode cX1_lettersOfWords 8 = .ok (.if_icmp .ge 54, 3) := by decide +kernel
theorem dX1_lettersOfWords_11 : decode cX1_lettersOfWords 11 = .ok (.aload_n 0, 1) := by decide +kernel
theorem dX1_lettersOfWords_12 : decode cX1_lettersOfWords 12 = .ok (.getfield 25, 3) := by decide +kernel
theorem dX1_lettersOfWords_15 : decode cX1_lettersOfWords 15 = .ok (.iload_n 2, 1) := by decide +kernel
theorem dX1_lettersOfWords_16 : decode cX1_lettersOfWords 16 = .ok (.invokestatic 85, 3) := by decide +kernel
theorem dX1_lettersOfWords_19 : decode cX1_lettersOfWords 19 = .ok (.ifCond .le 14, 3) := by decide +kernel
theorem dX1_lettersOfWords_22 : decode cX1_lettersOfWords 22 = .ok (.iload_n 1, 1) := by decide +kernel
theorem dX1_lettersOfWords_23 : decode cX1_lettersOfWords 23 = .ok (.aload_n 0, 1) := by decide +kernel
theorem dX1_lettersOfWords_24 : decode cX1_lettersOfWords 24 = .ok (.getfield 37, 3) := by decide +kernel
theorem dX1_lettersOfWords_27 : decode cX1_lettersOfWords 27 = .ok (.iload_n 2, 1) := by decide +kernel
theorem dX1_lettersOfWords_28 : decode cX1_lettersOfWords 28 = .ok (.invokestatic 85, 3) := by decide +kernel
theorem dX1_lettersOfWords_31 : decode cX1_lettersOfWords 31 = .ok (.iadd, 1) := by decide +kernel
theorem dX1_lettersOfWords_32 : decode cX1_lettersOfWords 32 = .ok (.istore_n 1, 1) := by decide +kernel
theorem dX1_lettersOfWords_33 : decode cX1_lettersOfWords 33 = .ok (.aload_n 0, 1) := by decide +kernel
theorem dX1_lettersOfWords_34 : decode cX1_lettersOfWords 34 = .ok (.getfield 18, 3) := by decide +kernel
theorem dX1_lettersOfWords_37 : decode cX1_lettersOfWords 37 = .ok (.iload_n 2, 1) := by decide +kernel
theorem dX1_lettersOfWords_38 : decode cX1_lettersOfWords 38 = .ok (.invokestatic 85, 3) := by decide +kernel
theorem dX1_lettersOfWords_41 : decode cX1_lettersOfWords 41 = .ok (.iconst 2, 1) := by decide +kernel
theorem dX1_lettersOfWords_42 : decode cX1_lettersOfWords 42 = .ok (.if_icmp .ne 14, 3) := by decide +kernel
theorem dX1_lettersOfWords_45 : decode cX1_lettersOfWords 45 = .ok (.iload_n 1, 1) := by decide +kernel
theorem dX1_lettersOfWords_46 : decode cX1_lettersOfWords 46 = .ok (.aload_n 0, 1) := by decide +kernel
theorem dX1_lettersOfWords_47 : decode cX1_lettersOfWords 47 = .ok (.iload_n 2, 1) := by decide +kernel
theorem dX1_lettersOfWords_48 : decode cX1_lettersOfWords 48 = .ok (.invokevirtual 162, 3) := by decide +kernel
theorem dX1_lettersOfWords_51 : decode cX1_lettersOfWords 51 = .ok (.invokestatic 165, 3) := by decide +kernel
theorem dX1_lettersOfWords_54 : decode cX1_lettersOfWords 54 = .ok (.iadd, 1) := by decide +kernel
theorem dX1_lettersOfWords_55 : decode cX1_lettersOfWords 55 = .ok (.istore_n 1, 1) := by decide +kernel
theorem dX1_lettersOfWords_56 : decode cX1_lettersOfWords 56 = .ok (.iinc 2 1, 3) := by decide +kernel
theorem dX1_lettersOfWords_59 : decode cX1_lettersOfWords 59 = .ok (.goto (-55), 3) := by decide +kernel
theorem dX1_lettersOfWords_62 : decode cX1_lettersOfWords 62 = .ok (.iload_n 1, 1) := by decide +kernel
theorem dX1_lettersOfWords_63 : decode cX1_lettersOfWords 63 = .ok (.ireturn, 1) := by decide +kernel
set_option maxRecDepth 20000 in
theorem ggX1_leafOf_X3_at : GoodIn wsX1_leafOf wsX3_at := goodIn_r _ [4] (by decide +kernel) (by decide +kernel)
set_option maxRecDepth 20000 in
theorem gX1_leafOf_X3_at_n85 : GoodIn wsX1_leafOf (wsX3_at) := ggX1_leafOf_X3_at
set_option maxRecDepth 20000 in
theorem ggX1_leafOf_X1_endOf : GoodIn wsX1_leafOf wsX1_endOf := goodIn_r _ [9, 10, 11, 2, 3, 4, 12, 13, 14, 15, 16, 17, 32, 33, 34, 35, 36, 37, 38, 39, 40, 41, 42] (by decide +kernel) (by decide +kernel)
set_option maxRecDepth 20000 in
theorem gX1_leafOf_X1_endOf : GoodIn wsX1_leafOf (wsV RX1 162 RX1 yX1_endOf wsX1_endOf) := goodIn_app (goodIn_of _ (by decide +kernel)) ggX1_leafOf_X1_endOf
set_option maxRecDepth 20000 in
theorem ggX1_leafOf_X2_firstOf : GoodIn wsX1_leafOf wsX2_firstOf := goodIn_r _ [21, 22] (by decide +kernel) (by decide +kernel)
set_option maxRecDepth 20000 in
theorem gX1_leafOf_X2_firstOf : GoodIn wsX1_leafOf (va_wsS RX1 93 yX2_firstOf wsX2_firstOf) := goodIn_app (goodIn_of _ (by decide +kernel)) ggX1_leafOf_X2_firstOf
set_option maxRecDepth 20000 in
theorem ggX1_leafOf_X1_childOf : GoodIn wsX1_leafOf wsX1_childOf := goodIn_r _ [26, 27, 28, 2, 3, 4, 32, 33, 34, 35, 36, 37, 38, 39, 40] (by decide +kernel) (by decide +kernel)
set_option maxRecDepth 20000 in
theorem gX1_leafOf_X1_childOf : GoodIn wsX1_leafOf (wsV RX1 102 RX1 yX1_childOf wsX1_childOf) := goodIn_app (goodIn_of _ (by decide +kernel)) ggX1_leafOf_X1_childOf
set_option maxRecDepth 20000 in
theorem ggX1_leafOf_X2_withoutFirst : GoodIn wsX1_leafOf wsX2_withoutFirst := goodIn_r _ [31] (by decide +kernel) (by decide +kernel)
set_option maxRecDepth 20000 in
theorem gX1_leafOf_X2_withoutFirst : GoodIn wsX1_leafOf (va_wsS RX1 98 yX2_withoutFirst wsX2_withoutFirst) := goodIn_app (goodIn_of _ (by decide +kernel)) ggX1_leafOf_X2_withoutFirst
theorem dX1_leafOf_0 : decode cX1_leafOf 0 = .ok (.iconst 0, 1) := by decide +kernel
theorem dX1_leafOf_1 : decode cX1_leafOf 1 = .ok (.istore_n 3, 1) := by decide +kernel
theorem dX1_leafOf_2 : decode cX1_leafOf 2 = .ok (.lload_n 1, 1) := by decide +kernel
theorem dX1_leafOf_3 : decode cX1_leafOf 3 = .ok (.lstore 4, 2) := by decide +kernel
theorem dX1_leafOf_5 : decode cX1_leafOf 5 = .ok (.iconst 0, 1) := by decide +kernel
theorem dX1_leafOf_6 : decode cX1_leafOf 6 = .ok (.istore 6, 2) := by decide +kernel
theorem dX1_leafOf_8 : decode cX1_leafOf 8 = .ok (.iload 6, 2) := by decide +kernel
theorem dX1_leafOf_10 : decode cX1_leafOf 10 = .ok (.bipush 12, 2) := by decide +kernel
theorem dX1_leafOf_12 : decode cX1_leafOf 12 = .ok (.if_icmp .gt 61, 3) := by decide +kernel
theorem dX1_leafOf_15 : decode cX1_leafOf 15 = .ok (.iload_n 3, 1) := by decide +kernel
theorem dX1_leafOf_16 : decode cX1_leafOf 16 = .ok (.iconst (-1), 1) := by decide +kernel
theorem dX1_leafOf_17 : decode cX1_leafOf 17 = .ok (.if_icmp .eq 56, 3) := by decide +kernel
theorem dX1_leafOf_20 : decode cX1_leafOf 20 = .ok (.aload_n 0, 1) := by decide +kernel
theorem dX1_leafOf_21 : decode cX1_leafOf 21 = .ok (.getfield 18, 3) := by decide +kernel
theorem dX1_leafOf_24 : decode cX1_leafOf 24 = .ok (.iload_n 3, 1) := by decide +kernel
theorem dX1_leafOf_25 : decode cX1_leafOf 25 = .ok (.invokestatic 85, 3) := by decide +kernel
theorem dX1_leafOf_28 : decode cX1_leafOf 28 = .ok (.iconst 2, 1) := by decide +kernel
theorem dX1_leafOf_29 : decode cX1_leafOf 29 = .ok (.if_icmp .ne 20, 3) := by decide +kernel
theorem dX1_leafOf_32 : decode cX1_leafOf 32 = .ok (.aload_n 0, 1) := by decide +kernel
theorem dX1_leafOf_33 : decode cX1_leafOf 33 = .ok (.iload_n 3, 1) := by decide +kernel
theorem dX1_leafOf_34 : decode cX1_leafOf 34 = .ok (.invokevirtual 162, 3) := by decide +kernel
theorem dX1_leafOf_37 : decode cX1_leafOf 37 = .ok (.lload 4, 2) := by decide +kernel
theorem dX1_leafOf_39 : decode cX1_leafOf 39 = .ok (.lcmp, 1) := by decide +kernel
theorem dX1_leafOf_40 : decode cX1_leafOf 40 = .ok (.ifCond .ne 7, 3) := by decide +kernel
theorem dX1_leafOf_43 : decode cX1_leafOf 43 = .ok (.iload_n 3, 1) := by decide +kernel
theorem dX1_leafOf_44 : decode cX1_leafOf 44 = .ok (.goto 4, 3) := by decide +kernel
theorem dX1_leafOf_47 : decode cX1_leafOf 47 = .ok (.iconst (-1), 1) := by decide +kernel
theorem dX1_leafOf_48 : decode cX1_leafOf 48 = .ok (.ireturn, 1) := by decide +kernel
theorem dX1_leafOf_49 : decode cX1_leafOf 49 = .ok (.aload_n 0, 1) := by decide +kernel
theorem dX1_leafOf_50 : decode cX1_leafOf 50 = .ok (.iload_n 3, 1) := by decide +kernel
theorem dX1_leafOf_51 : decode cX1_leafOf 51 = .ok (.lload 4, 2) := by decide +kernel
theorem dX1_leafOf_53 : decode cX1_leafOf 53 = .ok (.invokestatic 93, 3) := by decide +kernel
theorem dX1_leafOf_56 : decode cX1_leafOf 56 = .ok (.invokevirtual 102, 3) := by decide +kernel
theorem dX1_leafOf_59 : decode cX1_leafOf 59 = .ok (.istore_n 3, 1) := by decide +kernel
theorem dX1_leafOf_60 : decode cX1_leafOf 60 = .ok (.lload 4, 2) := by decide +kernel
theorem dX1_leafOf_62 : decode cX1_leafOf 62 = .ok (.invokestatic 98, 3) := by decide +kernel
theorem dX1_leafOf_65 : decode cX1_leafOf 65 = .ok (.lstore 4, 2) := by decide +kernel
theorem dX1_leafOf_67 : decode cX1_leafOf 67 = .ok (.iinc 6 1, 3) := by decide +kernel
theorem dX1_leafOf_70 : decode cX1_leafOf 70 = .ok (.goto (-62), 3) := by decide +kernel
theorem dX1_leafOf_73 : decode cX1_leafOf 73 = .ok (.iconst (-1), 1) := by decide +kernel
theorem dX1_leafOf_74 : decode cX1_leafOf 74 = .ok (.ireturn, 1) := by decide +kernel
set_option maxRecDepth 20000 in
theorem ggX1_longestAtStartOf_X3_at : GoodIn wsX1_longestAtStartOf wsX3_at := goodIn_r _ [4] (by decide +kernel) (by decide +kernel)
set_option maxRecDepth 20000 in
theorem gX1_longestAtStartOf_X3_at_n85 : GoodIn wsX1_longestAtStartOf (wsX3_at) := ggX1_longestAtStartOf_X3_at
set_option maxRecDepth 20000 in
theorem ggX1_longestAtStartOf_X1_endOf : GoodIn wsX1_longestAtStartOf wsX1_endOf := goodIn_r _ [9, 10, 11, 2, 3, 4, 12, 13, 14, 15, 16, 17, 46, 47, 48, 49, 50, 51, 52, 53, 54, 55, 56] (by decide +kernel) (by decide +kernel)
set_option maxRecDepth 20000 in
theorem gX1_longestAtStartOf_X1_endOf : GoodIn wsX1_longestAtStartOf (wsV RX1 162 RX1 yX1_endOf wsX1_endOf) := goodIn_app (goodIn_of _ (by decide +kernel)) ggX1_longestAtStartOf_X1_endOf
set_option maxRecDepth 20000 in
theorem ggX1_longestAtStartOf_X2_begins : GoodIn wsX1_longestAtStartOf wsX2_begins := goodIn_r _ [21, 22, 23, 20, 24, 25, 26, 27, 28, 29, 30, 31, 32, 33, 34] (by decide +kernel) (by decide +kernel)
set_option maxRecDepth 20000 in
theorem gX1_longestAtStartOf_X2_begins : GoodIn wsX1_longestAtStartOf (va_wsS RX1 168 yX2_begins wsX2_begins) := goodIn_app (goodIn_of _ (by decide +kernel)) ggX1_longestAtStartOf_X2_begins
set_option maxRecDepth 20000 in
theorem ggX1_longestAtStartOf_X2_lengthOf : GoodIn wsX1_longestAtStartOf wsX2_lengthOf := goodIn_r _ [24, 25, 26, 20, 27, 28, 29, 30, 31] (by decide +kernel) (by decide +kernel)
set_option maxRecDepth 20000 in
theorem gX1_longestAtStartOf_X2_lengthOf : GoodIn wsX1_longestAtStartOf (va_wsS RX1 165 yX2_lengthOf wsX2_lengthOf) := goodIn_app (goodIn_of _ (by decide +kernel)) ggX1_longestAtStartOf_X2_lengthOf
set_option maxRecDepth 20000 in
theorem ggX1_longestAtStartOf_X1_childOf : GoodIn wsX1_longestAtStartOf wsX1_childOf := goodIn_r _ [39, 40, 41, 2, 3, 4, 46, 47, 48, 49, 50, 51, 52, 53, 54] (by decide +kernel) (by decide +kernel)
set_option maxRecDepth 20000 in
theorem gX1_longestAtStartOf_X1_childOf : GoodIn wsX1_longestAtStartOf (wsV RX1 102 RX1 yX1_childOf wsX1_childOf) := goodIn_app (goodIn_of _ (by decide +kernel)) ggX1_longestAtStartOf_X1_childOf
set_option maxRecDepth 20000 in
theorem ggX1_longestAtStartOf_X2_firstOf : GoodIn wsX1_longestAtStartOf wsX2_firstOf := goodIn_r _ [30, 31] (by decide +kernel) (by decide +kernel)
set_option maxRecDepth 20000 in
theorem gX1_longestAtStartOf_X2_firstOf : GoodIn wsX1_longestAtStartOf (va_wsS RX1 93 yX2_firstOf wsX2_firstOf) := goodIn_app (goodIn_of _ (by decide +kernel)) ggX1_longestAtStartOf_X2_firstOf
set_option maxRecDepth 20000 in
theorem ggX1_longestAtStartOf_X2_withoutFirst : GoodIn wsX1_longestAtStartOf wsX2_withoutFirst := goodIn_r _ [45] (by decide +kernel) (by decide +kernel)
set_option maxRecDepth 20000 in
theorem gX1_longestAtStartOf_X2_withoutFirst : GoodIn wsX1_longestAtStartOf (va_wsS RX1 98 yX2_withoutFirst wsX2_withoutFirst) := goodIn_app (goodIn_of _ (by decide +kernel)) ggX1_longestAtStartOf_X2_withoutFirst
theorem dX1_longestAtStartOf_0 : decode cX1_longestAtStartOf 0 = .ok (.iconst (-1), 1) := by decide +kernel
theorem dX1_longestAtStartOf_1 : decode cX1_longestAtStartOf 1 = .ok (.istore_n 3, 1) := by decide +kernel
theorem dX1_longestAtStartOf_2 : decode cX1_longestAtStartOf 2 = .ok (.iconst 0, 1) := by decide +kernel
theorem dX1_longestAtStartOf_3 : decode cX1_longestAtStartOf 3 = .ok (.istore 4, 2) := by decide +kernel
theorem dX1_longestAtStartOf_5 : decode cX1_longestAtStartOf 5 = .ok (.lload_n 1, 1) := by decide +kernel
theorem dX1_longestAtStartOf_6 : decode cX1_longestAtStartOf 6 = .ok (.lstore 5, 2) := by decide +kernel
theorem dX1_longestAtStartOf_8 : decode cX1_longestAtStartOf 8 = .ok (.iconst 0, 1) := by decide +kernel
theorem dX1_longestAtStartOf_9 : decode cX1_longestAtStartOf 9 = .ok (.istore 7, 2) := by decide +kernel
theorem dX1_longestAtStartOf_11 : decode cX1_longestAtStartOf 11 = .ok (.iload 7, 2) := by decide +kernel
theorem dX1_longestAtStartOf_13 : decode cX1_longestAtStartOf 13 = .ok (.bipush 12, 2) := by decide +kernel
theorem dX1_longestAtStartOf_15 : decode cX1_longestAtStartOf 15 = .ok (.if_icmp .gt 104, 3) := by decide +kernel
theorem dX1_longestAtStartOf_18 : decode cX1_longestAtStartOf 18 = .ok (.iload 4, 2) := by decide +kernel
theorem dX1_longestAtStartOf_20 : decode cX1_longestAtStartOf 20 = .ok (.iconst (-1), 1) := by decide +kernel
theorem dX1_longestAtStartOf_21 : decode cX1_longestAtStartOf 21 = .ok (.if_icmp .eq 98, 3) := by decide +kernel
theorem dX1_longestAtStartOf_24 : decode cX1_longestAtStartOf 24 = .ok (.aload_n 0, 1) := by decide +kernel
theorem dX1_longestAtStartOf_25 : decode cX1_longestAtStartOf 25 = .ok (.getfield 18, 3) := by decide +kernel
theorem dX1_longestAtStartOf_28 : decode cX1_longestAtStartOf 28 = .ok (.iload 4, 2) := by decide +kernel
theorem dX1_longestAtStartOf_30 : decode cX1_longestAtStartOf 30 = .ok (.invokestatic 85, 3) := by decide +kernel
theorem dX1_longestAtStartOf_33 : decode cX1_longestAtStartOf 33 = .ok (.iconst 2, 1) := by decide +kernel
theorem dX1_longestAtStartOf_34 : decode cX1_longestAtStartOf 34 = .ok (.if_icmp .ne 34, 3) := by decide +kernel
theorem dX1_longestAtStartOf_37 : decode cX1_longestAtStartOf 37 = .ok (.lload 5, 2) := by decide +kernel
theorem dX1_longestAtStartOf_39 : decode cX1_longestAtStartOf 39 = .ok (.aload_n 0, 1) := by decide +kernel
theorem dX1_longestAtStartOf_40 : decode cX1_longestAtStartOf 40 = .ok (.iload 4, 2) := by decide +kernel
theorem dX1_longestAtStartOf_42 : decode cX1_longestAtStartOf 42 = .ok (.invokevirtual 162, 3) := by decide +kernel
theorem dX1_longestAtStartOf_45 : decode cX1_longestAtStartOf 45 = .ok (.invokestatic 168, 3) := by decide +kernel
theorem dX1_longestAtStartOf_48 : decode cX1_longestAtStartOf 48 = .ok (.ifCond .eq 18, 3) := by decide +kernel
theorem dX1_longestAtStartOf_51 : decode cX1_longestAtStartOf 51 = .ok (.iload 7, 2) := by decide +kernel
theorem dX1_longestAtStartOf_53 : decode cX1_longestAtStartOf 53 = .ok (.aload_n 0, 1) := by decide +kernel
theorem dX1_longestAtStartOf_54 : decode cX1_longestAtStartOf 54 = .ok (.iload 4, 2) := by decide +kernel
theorem dX1_longestAtStartOf_56 : decode cX1_longestAtStartOf 56 = .ok (.invokevirtual 162, 3) := by decide +kernel
theorem dX1_longestAtStartOf_59 : decode cX1_longestAtStartOf 59 = .ok (.invokestatic 165, 3) := by decide +kernel
theorem dX1_longestAtStartOf_62 : decode cX1_longestAtStartOf 62 = .ok (.iadd, 1) := by decide +kernel
theorem dX1_longestAtStartOf_63 : decode cX1_longestAtStartOf 63 = .ok (.goto 4, 3) := by decide +kernel
theorem dX1_longestAtStartOf_66 : decode cX1_longestAtStartOf 66 = .ok (.iload_n 3, 1) := by decide +kernel
theorem dX1_longestAtStartOf_67 : decode cX1_longestAtStartOf 67 = .ok (.ireturn, 1) := by decide +kernel
theorem dX1_longestAtStartOf_68 : decode cX1_longestAtStartOf 68 = .ok (.aload_n 0, 1) := by decide +kernel
theorem dX1_longestAtStartOf_69 : decode cX1_longestAtStartOf 69 = .ok (.iload 4, 2) := by decide +kernel
theorem dX1_longestAtStartOf_71 : decode cX1_longestAtStartOf 71 = .ok (.iconst 0, 1) := by decide +kernel
theorem dX1_longestAtStartOf_72 : decode cX1_longestAtStartOf 72 = .ok (.invokevirtual 102, 3) := by decide +kernel
theorem dX1_longestAtStartOf_75 : decode cX1_longestAtStartOf 75 = .ok (.iconst (-1), 1) := by decide +kernel
theorem dX1_longestAtStartOf_76 : decode cX1_longestAtStartOf 76 = .ok (.if_icmp .eq 6, 3) := by decide +kernel
theorem dX1_longestAtStartOf_79 : decode cX1_longestAtStartOf 79 = .ok (.iload 7, 2) := by decide +kernel
theorem dX1_longestAtStartOf_81 : decode cX1_longestAtStartOf 81 = .ok (.istore_n 3, 1) := by decide +kernel
theorem dX1_longestAtStartOf_82 : decode cX1_longestAtStartOf 82 = .ok (.lload 5, 2) := by decide +kernel
theorem dX1_longestAtStartOf_84 : decode cX1_longestAtStartOf 84 = .ok (.lconst 0, 1) := by decide +kernel
theorem dX1_longestAtStartOf_85 : decode cX1_longestAtStartOf 85 = .ok (.lcmp, 1) := by decide +kernel
theorem dX1_longestAtStartOf_86 : decode cX1_longestAtStartOf 86 = .ok (.ifCond .ne 7, 3) := by decide +kernel
theorem dX1_longestAtStartOf_89 : decode cX1_longestAtStartOf 89 = .ok (.iconst (-1), 1) := by decide +kernel
theorem dX1_longestAtStartOf_90 : decode cX1_longestAtStartOf 90 = .ok (.goto 14, 3) := by decide +kernel
theorem dX1_longestAtStartOf_93 : decode cX1_longestAtStartOf 93 = .ok (.aload_n 0, 1) := by decide +kernel
theorem dX1_longestAtStartOf_94 : decode cX1_longestAtStartOf 94 = .ok (.iload 4, 2) := by decide +kernel
theorem dX1_longestAtStartOf_96 : decode cX1_longestAtStartOf 96 = .ok (.lload 5, 2) := by decide +kernel
theorem dX1_longestAtStartOf_98 : decode cX1_longestAtStartOf 98 = .ok (.invokestatic 93, 3) := by decide +kernel
theorem dX1_longestAtStartOf_101 : decode cX1_longestAtStartOf 101 = .ok (.invokevirtual 102, 3) := by decide +kernel
theorem dX1_longestAtStartOf_104 : decode cX1_longestAtStartOf 104 = .ok (.istore 4, 2) := by decide +kernel
theorem dX1_longestAtStartOf_106 : decode cX1_longestAtStartOf 106 = .ok (.lload 5, 2) := by decide +kernel
theorem dX1_longestAtStartOf_108 : decode cX1_longestAtStartOf 108 = .ok (.invokestatic 98, 3) := by decide +kernel
theorem dX1_longestAtStartOf_111 : decode cX1_longestAtStartOf 111 = .ok (.lstore 5, 2) := by decide +kernel
theorem dX1_longestAtStartOf_113 : decode cX1_longestAtStartOf 113 = .ok (.iinc 7 1, 3) := by decide +kernel
theorem dX1_longestAtStartOf_116 : decode cX1_longestAtStartOf 116 = .ok (.goto (-105), 3) := by decide +kernel
theorem dX1_longestAtStartOf_119 : decode cX1_longestAtStartOf 119 = .ok (.iload_n 3, 1) := by decide +kernel
theorem dX1_longestAtStartOf_120 : decode cX1_longestAtStartOf 120 = .ok (.ireturn, 1) := by decide +kernel
set_option maxRecDepth 20000 in
theorem ggX1_wordsWith_X3_at : GoodIn wsX1_wordsWith wsX3_at := goodIn_r _ [5] (by decide +kernel) (by decide +kernel)
set_option maxRecDepth 20000 in
theorem gX1_wordsWith_X3_at_n85 : GoodIn wsX1_wordsWith (wsX3_at) := ggX1_wordsWith_X3_at
set_option maxRecDepth 20000 in
theorem ggX1_wordsWith_X1_endOf : GoodIn wsX1_wordsWith wsX1_endOf := goodIn_r _ [10, 11, 12, 3, 4, 5, 13, 14, 15, 16, 17, 18, 46, 47, 48, 49, 50, 51, 52, 53, 54, 55, 56] (by decide +kernel) (by decide +kernel)
set_option maxRecDepth 20000 in
theorem gX1_wordsWith_X1_endOf : GoodIn wsX1_wordsWith (wsV RX1 162 RX1 yX1_endOf wsX1_endOf) := goodIn_app (goodIn_of _ (by decide +kernel)) ggX1_wordsWith_X1_endOf
set_option maxRecDepth 20000 in
theorem ggX1_wordsWith_X2_begins : GoodIn wsX1_wordsWith wsX2_begins := goodIn_r _ [22, 23, 24, 21, 25, 26, 27, 28, 29, 30, 31, 32, 33, 34, 35] (by decide +kernel) (by decide +kernel)
set_option maxRecDepth 20000 in
theorem gX1_wordsWith_X2_begins : GoodIn wsX1_wordsWith (va_wsS RX1 168 yX2_begins wsX2_begins) := goodIn_app (goodIn_of _ (by decide +kernel)) ggX1_wordsWith_X2_begins
set_option maxRecDepth 20000 in
theorem ggX1_wordsWith_X2_firstOf : GoodIn wsX1_wordsWith wsX2_firstOf := goodIn_r _ [31, 32] (by decide +kernel) (by decide +kernel)
set_option maxRecDepth 20000 in
theorem gX1_wordsWith_X2_firstOf : GoodIn wsX1_wordsWith (va_wsS RX1 93 yX2_firstOf wsX2_firstOf) := goodIn_app (goodIn_of _ (by decide +kernel)) ggX1_wordsWith_X2_firstOf
set_option maxRecDepth 20000 in
theorem ggX1_wordsWith_X1_childOf : GoodIn wsX1_wordsWith wsX1_childOf := goodIn_r _ [40, 41, 42, 3, 4, 5, 46, 47, 48, 49, 50, 51, 52, 53, 54] (by decide +kernel) (by decide +kernel)
set_option maxRecDepth 20000 in
theorem gX1_wordsWith_X1_childOf : GoodIn wsX1_wordsWith (wsV RX1 102 RX1 yX1_childOf wsX1_childOf) := goodIn_app (goodIn_of _ (by decide +kernel)) ggX1_wordsWith_X1_childOf
set_option maxRecDepth 20000 in
theorem ggX1_wordsWith_X2_withoutFirst : GoodIn wsX1_wordsWith wsX2_withoutFirst := goodIn_r _ [45] (by decide +kernel) (by decide +kernel)
set_option maxRecDepth 20000 in
theorem gX1_wordsWith_X2_withoutFirst : GoodIn wsX1_wordsWith (va_wsS RX1 98 yX2_withoutFirst wsX2_withoutFirst) := goodIn_app (goodIn_of _ (by decide +kernel)) ggX1_wordsWith_X2_withoutFirst
theorem dX1_wordsWith_0 : decode cX1_wordsWith 0 = .ok (.iconst 0, 1) := by decide +kernel
theorem dX1_wordsWith_1 : decode cX1_wordsWith 1 = .ok (.istore_n 3, 1) := by decide +kernel
theorem dX1_wordsWith_2 : decode cX1_wordsWith 2 = .ok (.lload_n 1, 1) := by decide +kernel
theorem dX1_wordsWith_3 : decode cX1_wordsWith 3 = .ok (.lstore 4, 2) := by decide +kernel
theorem dX1_wordsWith_5 : decode cX1_wordsWith 5 = .ok (.iconst 0, 1) := by decide +kernel
theorem dX1_wordsWith_6 : decode cX1_wordsWith 6 = .ok (.istore 6, 2) := by decide +kernel
theorem dX1_wordsWith_8 : decode cX1_wordsWith 8 = .ok (.iload 6, 2) := by decide +kernel
theorem dX1_wordsWith_10 : decode cX1_wordsWith 10 = .ok (.bipush 12, 2) := by decide +kernel
theorem dX1_wordsWith_12 : decode cX1_wordsWith 12 = .ok (.if_icmp .gt 79, 3) := by decide +kernel
theorem dX1_wordsWith_15 : decode cX1_wordsWith 15 = .ok (.iload_n 3, 1) := by decide +kernel
theorem dX1_wordsWith_16 : decode cX1_wordsWith 16 = .ok (.iconst (-1), 1) := by decide +kernel
theorem dX1_wordsWith_17 : decode cX1_wordsWith 17 = .ok (.if_icmp .eq 74, 3) := by decide +kernel
theorem dX1_wordsWith_20 : decode cX1_wordsWith 20 = .ok (.aload_n 0, 1) := by decide +kernel
theorem dX1_wordsWith_21 : decode cX1_wordsWith 21 = .ok (.getfield 18, 3) := by decide +kernel
theorem dX1_wordsWith_24 : decode cX1_wordsWith 24 = .ok (.iload_n 3, 1) := by decide +kernel
theorem dX1_wordsWith_25 : decode cX1_wordsWith 25 = .ok (.invokestatic 85, 3) := by decide +kernel
theorem dX1_wordsWith_28 : decode cX1_wordsWith 28 = .ok (.iconst 2, 1) := by decide +kernel
theorem dX1_wordsWith_29 : decode cX1_wordsWith 29 = .ok (.if_icmp .ne 22, 3) := by decide +kernel
theorem dX1_wordsWith_32 : decode cX1_wordsWith 32 = .ok (.aload_n 0, 1) := by decide +kernel
theorem dX1_wordsWith_33 : decode cX1_wordsWith 33 = .ok (.iload_n 3, 1) := by decide +kernel
theorem dX1_wordsWith_34 : decode cX1_wordsWith 34 = .ok (.invokevirtual 162, 3) := by decide +kernel
theorem dX1_wordsWith_37 : decode cX1_wordsWith 37 = .ok (.lload 4, 2) := by decide +kernel
theorem dX1_wordsWith_39 : decode cX1_wordsWith 39 = .ok (.invokestatic 168, 3) := by decide +kernel
theorem dX1_wordsWith_42 : decode cX1_wordsWith 42 = .ok (.ifCond .eq 7, 3) := by decide +kernel
theorem dX1_wordsWith_45 : decode cX1_wordsWith 45 = .ok (.iconst 1, 1) := by decide +kernel
theorem dX1_wordsWith_46 : decode cX1_wordsWith 46 = .ok (.goto 4, 3) := by decide +kernel
theorem dX1_wordsWith_49 : decode cX1_wordsWith 49 = .ok (.iconst 0, 1) := by decide +kernel
theorem dX1_wordsWith_50 : decode cX1_wordsWith 50 = .ok (.ireturn, 1) := by decide +kernel
theorem dX1_wordsWith_51 : decode cX1_wordsWith 51 = .ok (.lload 4, 2) := by decide +kernel
theorem dX1_wordsWith_53 : decode cX1_wordsWith 53 = .ok (.lconst 0, 1) := by decide +kernel
theorem dX1_wordsWith_54 : decode cX1_wordsWith 54 = .ok (.lcmp, 1) := by decide +kernel
theorem dX1_wordsWith_55 : decode cX1_wordsWith 55 = .ok (.ifCond .ne 12, 3) := by decide +kernel
theorem dX1_wordsWith_58 : decode cX1_wordsWith 58 = .ok (.aload_n 0, 1) := by decide +kernel
theorem dX1_wordsWith_59 : decode cX1_wordsWith 59 = .ok (.getfield 37, 3) := by decide +kernel
theorem dX1_wordsWith_62 : decode cX1_wordsWith 62 = .ok (.iload_n 3, 1) := by decide +kernel
theorem dX1_wordsWith_63 : decode cX1_wordsWith 63 = .ok (.invokestatic 85, 3) := by decide +kernel
theorem dX1_wordsWith_66 : decode cX1_wordsWith 66 = .ok (.ireturn, 1) := by decide +kernel
theorem dX1_wordsWith_67 : decode cX1_wordsWith 67 = .ok (.aload_n 0, 1) := by decide +kernel
theorem dX1_wordsWith_68 : decode cX1_wordsWith 68 = .ok (.iload_n 3, 1) := by decide +kernel
theorem dX1_wordsWith_69 : decode cX1_wordsWith 69 = .ok (.lload 4, 2) := by decide +kernel
theorem dX1_wordsWith_71 : decode cX1_wordsWith 71 = .ok (.invokestatic 93, 3) := by decide +kernel
theorem dX1_wordsWith_74 : decode cX1_wordsWith 74 = .ok (.invokevirtual 102, 3) := by decide +kernel
theorem dX1_wordsWith_77 : decode cX1_wordsWith 77 = .ok (.istore_n 3, 1) := by decide +kernel
theorem dX1_wordsWith_78 : decode cX1_wordsWith 78 = .ok (.lload 4, 2) := by decide +kernel
theorem dX1_wordsWith_80 : decode cX1_wordsWith 80 = .ok (.invokestatic 98, 3) := by decide +kernel
theorem dX1_wordsWith_83 : decode cX1_wordsWith 83 = .ok (.lstore 4, 2) := by decide +kernel
theorem dX1_wordsWith_85 : decode cX1_wordsWith 85 = .ok (.iinc 6 1, 3) := by decide +kernel
theorem dX1_wordsWith_88 : decode cX1_wordsWith 88 = .ok (.goto (-80), 3) := by decide +kernel
theorem dX1_wordsWith_91 : decode cX1_wordsWith 91 = .ok (.iconst 0, 1) := by decide +kernel
theorem dX1_wordsWith_92 : decode cX1_wordsWith 92 = .ok (.ireturn, 1) := by decide +kernel
set_option maxRecDepth 20000 in
theorem ggX1_wordsAhead_X3_at : GoodIn wsX1_wordsAhead wsX3_at := goodIn_r _ [4] (by decide +kernel) (by decide +kernel)
set_option maxRecDepth 20000 in
theorem gX1_wordsAhead_X3_at_n85 : GoodIn wsX1_wordsAhead (wsX3_at) := ggX1_wordsAhead_X3_at
set_option maxRecDepth 20000 in
theorem ggX1_wordsAhead_X1_endOf : GoodIn wsX1_wordsAhead wsX1_endOf := goodIn_r _ [9, 10, 11, 2, 3, 4, 12, 13, 14, 15, 16, 17, 44, 45, 46, 47, 48, 49, 50, 51, 52, 53, 54] (by decide +kernel) (by decide +kernel)
set_option maxRecDepth 20000 in
theorem gX1_wordsAhead_X1_endOf : GoodIn wsX1_wordsAhead (wsV RX1 162 RX1 yX1_endOf wsX1_endOf) := goodIn_app (goodIn_of _ (by decide +kernel)) ggX1_wordsAhead_X1_endOf
set_option maxRecDepth 20000 in
theorem ggX1_wordsAhead_X2_isAhead : GoodIn wsX1_wordsAhead wsX2_isAhead := goodIn_r _ [21, 22, 23, 20, 24, 25, 26, 27, 28] (by decide +kernel) (by decide +kernel)
set_option maxRecDepth 20000 in
theorem gX1_wordsAhead_X2_isAhead : GoodIn wsX1_wordsAhead (va_wsS RX1 172 yX2_isAhead wsX2_isAhead) := goodIn_app (goodIn_of _ (by decide +kernel)) ggX1_wordsAhead_X2_isAhead
set_option maxRecDepth 20000 in
theorem ggX1_wordsAhead_X2_firstOf : GoodIn wsX1_wordsAhead wsX2_firstOf := goodIn_r _ [27, 28] (by decide +kernel) (by decide +kernel)
set_option maxRecDepth 20000 in
theorem gX1_wordsAhead_X2_firstOf : GoodIn wsX1_wordsAhead (va_wsS RX1 93 yX2_firstOf wsX2_firstOf) := goodIn_app (goodIn_of _ (by decide +kernel)) ggX1_wordsAhead_X2_firstOf
set_option maxRecDepth 20000 in
theorem ggX1_wordsAhead_X1_wordsBefore : GoodIn wsX1_wordsAhead wsX1_wordsBefore := goodIn_r _ [33, 34, 35, 36, 37, 8, 38, 39, 40, 2, 3, 4, 44, 45, 46, 47, 48, 49, 50, 51, 52] (by decide +kernel) (by decide +kernel)
set_option maxRecDepth 20000 in
theorem gX1_wordsAhead_X1_wordsBefore : GoodIn wsX1_wordsAhead (wsV RX1 175 RX1 yX1_wordsBefore wsX1_wordsBefore) := goodIn_app (goodIn_of _ (by decide +kernel)) ggX1_wordsAhead_X1_wordsBefore
set_option maxRecDepth 20000 in
theorem ggX1_wordsAhead_X1_childOf : GoodIn wsX1_wordsAhead wsX1_childOf := goodIn_r _ [38, 39, 40, 2, 3, 4, 44, 45, 46, 47, 48, 49, 50, 51, 52] (by decide +kernel) (by decide +kernel)
set_option maxRecDepth 20000 in
theorem gX1_wordsAhead_X1_childOf : GoodIn wsX1_wordsAhead (wsV RX1 102 RX1 yX1_childOf wsX1_childOf) := goodIn_app (goodIn_of _ (by decide +kernel)) ggX1_wordsAhead_X1_childOf
set_option maxRecDepth 20000 in
theorem ggX1_wordsAhead_X2_withoutFirst : GoodIn wsX1_wordsAhead wsX2_withoutFirst := goodIn_r _ [43] (by decide +kernel) (by decide +kernel)
set_option maxRecDepth 20000 in
theorem gX1_wordsAhead_X2_withoutFirst : GoodIn wsX1_wordsAhead (va_wsS RX1 98 yX2_withoutFirst wsX2_withoutFirst) := goodIn_app (goodIn_of _ (by decide +kernel)) ggX1_wordsAhead_X2_withoutFirst
theorem dX1_wordsAhead_0 : decode cX1_wordsAhead 0 = .ok (.iconst 0, 1) := by decide +kernel
theorem dX1_wordsAhead_1 : decode cX1_wordsAhead 1 = .ok (.istore_n 3, 1) := by decide +kernel
theorem dX1_wordsAhead_2 : decode cX1_wordsAhead 2 = .ok (.iconst 0, 1) := by decide +kernel
theorem dX1_wordsAhead_3 : decode cX1_wordsAhead 3 = .ok (.istore 4, 2) := by decide +kernel
theorem dX1_wordsAhead_5 : decode cX1_wordsAhead 5 = .ok (.lload_n 1, 1) := by decide +kernel
theorem dX1_wordsAhead_6 : decode cX1_wordsAhead 6 = .ok (.lstore 5, 2) := by decide +kernel
theorem dX1_wordsAhead_8 : decode cX1_wordsAhead 8 = .ok (.iconst 0, 1) := by decide +kernel
theorem dX1_wordsAhead_9 : decode cX1_wordsAhead 9 = .ok (.istore 7, 2) := by decide +kernel
theorem dX1_wordsAhead_11 : decode cX1_wordsAhead 11 = .ok (.iload 7, 2) := by decide +kernel
theorem dX1_wordsAhead_13 : decode cX1_wordsAhead 13 = .ok (.bipush 12, 2) := by decide +kernel
theorem dX1_wordsAhead_15 : decode cX1_wordsAhead 15 = .ok (.if_icmp .gt 91, 3) := by decide +kernel
theorem dX1_wordsAhead_18 : decode cX1_wordsAhead 18 = .ok (.iload 4, 2) := by decide +kernel
theorem dX1_wordsAhead_20 : decode cX1_wordsAhead 20 = .ok (.iconst (-1), 1) := by decide +kernel
theorem dX1_wordsAhead_21 : decode cX1_wordsAhead 21 = .ok (.if_icmp .eq 85, 3) := by decide +kernel
theorem dX1_wordsAhead_24 : decode cX1_wordsAhead 24 = .ok (.lload 5, 2) := by decide +kernel
theorem dX1_wordsAhead_26 : decode cX1_wordsAhead 26 = .ok (.lconst 0, 1) := by decide +kernel
theorem dX1_wordsAhead_27 : decode cX1_wordsAhead 27 = .ok (.lcmp, 1) := by decide +kernel
theorem dX1_wordsAhead_28 : decode cX1_wordsAhead 28 = .ok (.ifCond .eq 78, 3) := by decide +kernel
theorem dX1_wordsAhead_31 : decode cX1_wordsAhead 31 = .ok (.aload_n 0, 1) := by decide +kernel
theorem dX1_wordsAhead_32 : decode cX1_wordsAhead 32 = .ok (.getfield 18, 3) := by decide +kernel
theorem dX1_wordsAhead_35 : decode cX1_wordsAhead 35 = .ok (.iload 4, 2) := by decide +kernel
theorem dX1_wordsAhead_37 : decode cX1_wordsAhead 37 = .ok (.invokestatic 85, 3) := by decide +kernel
theorem dX1_wordsAhead_40 : decode cX1_wordsAhead 40 = .ok (.iconst 2, 1) := by decide +kernel
theorem dX1_wordsAhead_41 : decode cX1_wordsAhead 41 = .ok (.if_icmp .ne 25, 3) := by decide +kernel
theorem dX1_wordsAhead_44 : decode cX1_wordsAhead 44 = .ok (.aload_n 0, 1) := by decide +kernel
theorem dX1_wordsAhead_45 : decode cX1_wordsAhead 45 = .ok (.iload 4, 2) := by decide +kernel
theorem dX1_wordsAhead_47 : decode cX1_wordsAhead 47 = .ok (.invokevirtual 162, 3) := by decide +kernel
theorem dX1_wordsAhead_50 : decode cX1_wordsAhead 50 = .ok (.lload 5, 2) := by decide +kernel
theorem dX1_wordsAhead_52 : decode cX1_wordsAhead 52 = .ok (.invokestatic 172, 3) := by decide +kernel
theorem dX1_wordsAhead_55 : decode cX1_wordsAhead 55 = .ok (.ifCond .eq 9, 3) := by decide +kernel
theorem dX1_wordsAhead_58 : decode cX1_wordsAhead 58 = .ok (.iload_n 3, 1) := by decide +kernel
theorem dX1_wordsAhead_59 : decode cX1_wordsAhead 59 = .ok (.iconst 1, 1) := by decide +kernel
theorem dX1_wordsAhead_60 : decode cX1_wordsAhead 60 = .ok (.iadd, 1) := by decide +kernel
theorem dX1_wordsAhead_61 : decode cX1_wordsAhead 61 = .ok (.goto 4, 3) := by decide +kernel
theorem dX1_wordsAhead_64 : decode cX1_wordsAhead 64 = .ok (.iload_n 3, 1) := by decide +kernel
theorem dX1_wordsAhead_65 : decode cX1_wordsAhead 65 = .ok (.ireturn, 1) := by decide +kernel
theorem dX1_wordsAhead_66 : decode cX1_wordsAhead 66 = .ok (.iload_n 3, 1) := by decide +kernel
theorem dX1_wordsAhead_67 : decode cX1_wordsAhead 67 = .ok (.aload_n 0, 1) := by decide +kernel
theorem dX1_wordsAhead_68 : decode cX1_wordsAhead 68 = .ok (.iload 4, 2) := by decide +kernel
theorem dX1_wordsAhead_70 : decode cX1_wordsAhead 70 = .ok (.lload 5, 2) := by decide +kernel
theorem dX1_wordsAhead_72 : decode cX1_wordsAhead 72 = .ok (.invokestatic 93, 3) := by decide +kernel
theorem dX1_wordsAhead_75 : decode cX1_wordsAhead 75 = .ok (.invokevirtual 175, 3) := by decide +kernel
theorem dX1_wordsAhead_78 : decode cX1_wordsAhead 78 = .ok (.iadd, 1) := by decide +kernel
theorem dX1_wordsAhead_79 : decode cX1_wordsAhead 79 = .ok (.istore_n 3, 1) := by decide +kernel
theorem dX1_wordsAhead_80 : decode cX1_wordsAhead 80 = .ok (.aload_n 0, 1) := by decide +kernel
theorem dX1_wordsAhead_81 : decode cX1_wordsAhead 81 = .ok (.iload 4, 2) := by decide +kernel
theorem dX1_wordsAhead_83 : decode cX1_wordsAhead 83 = .ok (.lload 5, 2) := by decide +kernel
theorem dX1_wordsAhead_85 : decode cX1_wordsAhead 85 = .ok (.invokestatic 93, 3) := by decide +kernel
theorem dX1_wordsAhead_88 : decode cX1_wordsAhead 88 = .ok (.invokevirtual 102, 3) := by decide +kernel
theorem dX1_wordsAhead_91 : decode cX1_wordsAhead 91 = .ok (.istore 4, 2) := by decide +kernel
theorem dX1_wordsAhead_93 : decode cX1_wordsAhead 93 = .ok (.lload 5, 2) := by decide +kernel
theorem dX1_wordsAhead_95 : decode cX1_wordsAhead 95 = .ok (.invokestatic 98, 3) := by decide +kernel
theorem dX1_wordsAhead_98 : decode cX1_wordsAhead 98 = .ok (.lstore 5, 2) := by decide +kernel
theorem dX1_wordsAhead_100 : decode cX1_wordsAhead 100 = .ok (.iinc 7 1, 3) := by decide +kernel
theorem dX1_wordsAhead_103 : decode cX1_wordsAhead 103 = .ok (.goto (-92), 3) := by decide +kernel
theorem dX1_wordsAhead_106 : decode cX1_wordsAhead 106 = .ok (.iload_n 3, 1) := by decide +kernel
theorem dX1_wordsAhead_107 : decode cX1_wordsAhead 107 = .ok (.ireturn, 1) := by decide +kernel
set_option maxRecDepth 20000 in
theorem ggX1_wordsBefore_X1_childOf : GoodIn wsX1_wordsBefore wsX1_childOf := goodIn_r _ [6, 7, 8, 9, 10, 11, 12, 13, 14, 15, 16, 17, 18, 19, 20] (by decide +kernel) (by decide +kernel)
set_option maxRecDepth 20000 in
theorem gX1_wordsBefore_X1_childOf : GoodIn wsX1_wordsBefore (wsV RX1 102 RX1 yX1_childOf wsX1_childOf) := goodIn_app (goodIn_of _ (by decide +kernel)) ggX1_wordsBefore_X1_childOf
set_option maxRecDepth 20000 in
theorem ggX1_wordsBefore_X3_at : GoodIn wsX1_wordsBefore wsX3_at := goodIn_r _ [11] (by decide +kernel) (by decide +kernel)
set_option maxRecDepth 20000 in
theorem gX1_wordsBefore_X3_at_n85 : GoodIn wsX1_wordsBefore (wsX3_at) := ggX1_wordsBefore_X3_at
theorem dX1_wordsBefore_0 : decode cX1_wordsBefore 0 = .ok (.iconst 0, 1) := by decide +kernel
theorem dX1_wordsBefore_1 : decode cX1_wordsBefore 1 = .ok (.istore_n 3, 1) := by decide +kernel
theorem dX1_wordsBefore_2 : decode cX1_wordsBefore 2 = .ok (.iconst 0, 1) := by decide +kernel
theorem dX1_wordsBefore_3 : decode cX1_wordsBefore 3 = .ok (.istore 4, 2) := by decide +kernel
theorem dX1_wordsBefore_5 : decode cX1_wordsBefore 5 = .ok (.iload 4, 2) := by decide +kernel
theorem dX1_wordsBefore_7 : decode cX1_wordsBefore 7 = .ok (.iload_n 2, 1) := by decide +kernel
theorem dX1_wordsBefore_8 : decode cX1_wordsBefore 8 = .ok (.if_icmp .ge 36, 3) := by decide +kernel
theorem dX1_wordsBefore_11 : decode cX1_wordsBefore 11 = .ok (.aload_n 0, 1) := by decide +kernel
theorem dX1_wordsBefore_12 : decode cX1_wordsBefore 12 = .ok (.iload_n 1, 1) := by decide +kernel
theorem dX1_wordsBefore_13 : decode cX1_wordsBefore 13 = .ok (.iload 4, 2) := by decide +kernel
theorem dX1_wordsBefore_15 : decode cX1_wordsBefore 15 = .ok (.invokevirtual 102, 3) := by decide +kernel
theorem dX1_wordsBefore_18 : decode cX1_wordsBefore 18 = .ok (.istore 5, 2) := by decide +kernel
theorem dX1_wordsBefore_20 : decode cX1_wordsBefore 20 = .ok (.iload 5, 2) := by decide +kernel
theorem dX1_wordsBefore_22 : decode cX1_wordsBefore 22 = .ok (.iconst (-1), 1) := by decide +kernel
theorem dX1_wordsBefore_23 : decode cX1_wordsBefore 23 = .ok (.if_icmp .eq 15, 3) := by decide +kernel
theorem dX1_wordsBefore_26 : decode cX1_wordsBefore 26 = .ok (.iload_n 3, 1) := by decide +kernel
theorem dX1_wordsBefore_27 : decode cX1_wordsBefore 27 = .ok (.aload_n 0, 1) := by decide +kernel
theorem dX1_wordsBefore_28 : decode cX1_wordsBefore 28 = .ok (.getfield 37, 3) := by decide +kernel
theorem dX1_wordsBefore_31 : decode cX1_wordsBefore 31 = .ok (.iload 5, 2) := by decide +kernel
theorem dX1_wordsBefore_33 : decode cX1_wordsBefore 33 = .ok (.invokestatic 85, 3) := by decide +kernel
theorem dX1_wordsBefore_36 : decode cX1_wordsBefore 36 = .ok (.iadd, 1) := by decide +kernel
theorem dX1_wordsBefore_37 : decode cX1_wordsBefore 37 = .ok (.istore_n 3, 1) := by decide +kernel
theorem dX1_wordsBefore_38 : decode cX1_wordsBefore 38 = .ok (.iinc 4 1, 3) := by decide +kernel
theorem dX1_wordsBefore_41 : decode cX1_wordsBefore 41 = .ok (.goto (-36), 3) := by decide +kernel
theorem dX1_wordsBefore_44 : decode cX1_wordsBefore 44 = .ok (.iload_n 3, 1) := by decide +kernel
theorem dX1_wordsBefore_45 : decode cX1_wordsBefore 45 = .ok (.ireturn, 1) := by decide +kernel
set_option maxRecDepth 20000 in
theorem ggX1_wordAt_X1_words : GoodIn wsX1_wordAt wsX1_words := goodIn_r _ [6, 7, 8, 9, 10, 41, 42, 43, 44, 45, 46, 47, 48, 49] (by decide +kernel) (by decide +kernel)
set_option maxRecDepth 20000 in
theorem gX1_wordAt_X1_words : GoodIn wsX1_wordAt (wsV RX1 70 RX1 yX1_words wsX1_words) := goodIn_app (goodIn_of _ (by decide +kernel)) ggX1_wordAt_X1_words
set_option maxRecDepth 20000 in
theorem ggX1_wordAt_X3_at : GoodIn wsX1_wordAt wsX3_at := goodIn_r _ [10] (by decide +kernel) (by decide +kernel)
set_option maxRecDepth 20000 in
theorem gX1_wordAt_X3_at_n85 : GoodIn wsX1_wordAt (wsX3_at) := ggX1_wordAt_X3_at
set_option maxRecDepth 20000 in
theorem ggX1_wordAt_X1_endOf : GoodIn wsX1_wordAt wsX1_endOf := goodIn_r _ [14, 15, 16, 8, 9, 10, 17, 18, 19, 20, 21, 22, 41, 42, 43, 44, 45, 46, 47, 48, 49, 50, 51] (by decide +kernel) (by decide +kernel)
set_option maxRecDepth 20000 in
theorem gX1_wordAt_X1_endOf : GoodIn wsX1_wordAt (wsV RX1 162 RX1 yX1_endOf wsX1_endOf) := goodIn_app (goodIn_of _ (by decide +kernel)) ggX1_wordAt_X1_endOf
set_option maxRecDepth 20000 in
theorem ggX1_wordAt_X1_letterOfRank : GoodIn wsX1_wordAt wsX1_letterOfRank := goodIn_r _ [26, 7, 27, 28, 29, 5, 30, 31, 32, 8, 9, 10, 41, 42, 43, 44, 45, 46, 47, 48, 49] (by decide +kernel) (by decide +kernel)
set_option maxRecDepth 20000 in
theorem gX1_wordAt_X1_letterOfRank : GoodIn wsX1_wordAt (wsV RX1 178 RX1 yX1_letterOfRank wsX1_letterOfRank) := goodIn_app (goodIn_of _ (by decide +kernel)) ggX1_wordAt_X1_letterOfRank
set_option maxRecDepth 20000 in
theorem ggX1_wordAt_X1_wordsBefore : GoodIn wsX1_wordAt wsX1_wordsBefore := goodIn_r _ [36, 7, 27, 28, 29, 5, 30, 31, 32, 8, 9, 10, 41, 42, 43, 44, 45, 46, 47, 48, 49] (by decide +kernel) (by decide +kernel)
set_option maxRecDepth 20000 in
theorem gX1_wordAt_X1_wordsBefore : GoodIn wsX1_wordAt (wsV RX1 175 RX1 yX1_wordsBefore wsX1_wordsBefore) := goodIn_app (goodIn_of _ (by decide +kernel)) ggX1_wordAt_X1_wordsBefore
set_option maxRecDepth 20000 in
theorem ggX1_wordAt_X2_withLetter : GoodIn wsX1_wordAt wsX2_withLetter := goodIn_r _ [40] (by decide +kernel) (by decide +kernel)
set_option maxRecDepth 20000 in
theorem gX1_wordAt_X2_withLetter : GoodIn wsX1_wordAt (va_wsS RX1 181 yX2_withLetter wsX2_withLetter) := goodIn_app (goodIn_of _ (by decide +kernel)) ggX1_wordAt_X2_withLetter
set_option maxRecDepth 20000 in
theorem ggX1_wordAt_X1_childOf : GoodIn wsX1_wordAt wsX1_childOf := goodIn_r _ [30, 31, 32, 8, 9, 10, 41, 42, 43, 44, 45, 46, 47, 48, 49] (by decide +kernel) (by decide +kernel)
set_option maxRecDepth 20000 in
theorem gX1_wordAt_X1_childOf : GoodIn wsX1_wordAt (wsV RX1 102 RX1 yX1_childOf wsX1_childOf) := goodIn_app (goodIn_of _ (by decide +kernel)) ggX1_wordAt_X1_childOf
theorem dX1_wordAt_0 : decode cX1_wordAt 0 = .ok (.iload_n 1, 1) := by decide +kernel
theorem dX1_wordAt_1 : decode cX1_wordAt 1 = .ok (.ifCond .lt 11, 3) := by decide +kernel
theorem dX1_wordAt_4 : decode cX1_wordAt 4 = .ok (.iload_n 1, 1) := by decide +kernel
theorem dX1_wordAt_5 : decode cX1_wordAt 5 = .ok (.aload_n 0, 1) := by decide +kernel
theorem dX1_wordAt_6 : decode cX1_wordAt 6 = .ok (.invokevirtual 70, 3) := by decide +kernel
theorem dX1_wordAt_9 : decode cX1_wordAt 9 = .ok (.if_icmp .lt 5, 3) := by decide +kernel
theorem dX1_wordAt_12 : decode cX1_wordAt 12 = .ok (.lconst 0, 1) := by decide +kernel
theorem dX1_wordAt_13 : decode cX1_wordAt 13 = .ok (.lreturn, 1) := by decide +kernel
theorem dX1_wordAt_14 : decode cX1_wordAt 14 = .ok (.iconst 0, 1) := by decide +kernel
theorem dX1_wordAt_15 : decode cX1_wordAt 15 = .ok (.istore_n 2, 1) := by decide +kernel
theorem dX1_wordAt_16 : decode cX1_wordAt 16 = .ok (.iload_n 1, 1) := by decide +kernel
theorem dX1_wordAt_17 : decode cX1_wordAt 17 = .ok (.istore_n 3, 1) := by decide +kernel
theorem dX1_wordAt_18 : decode cX1_wordAt 18 = .ok (.lconst 0, 1) := by decide +kernel
theorem dX1_wordAt_19 : decode cX1_wordAt 19 = .ok (.lstore 4, 2) := by decide +kernel
theorem dX1_wordAt_21 : decode cX1_wordAt 21 = .ok (.iconst 0, 1) := by decide +kernel
theorem dX1_wordAt_22 : decode cX1_wordAt 22 = .ok (.istore 6, 2) := by decide +kernel
theorem dX1_wordAt_24 : decode cX1_wordAt 24 = .ok (.iload 6, 2) := by decide +kernel
theorem dX1_wordAt_26 : decode cX1_wordAt 26 = .ok (.bipush 12, 2) := by decide +kernel
theorem dX1_wordAt_28 : decode cX1_wordAt 28 = .ok (.if_icmp .gt 72, 3) := by decide +kernel
theorem dX1_wordAt_31 : decode cX1_wordAt 31 = .ok (.aload_n 0, 1) := by decide +kernel
theorem dX1_wordAt_32 : decode cX1_wordAt 32 = .ok (.getfield 18, 3) := by decide +kernel
theorem dX1_wordAt_35 : decode cX1_wordAt 35 = .ok (.iload_n 2, 1) := by decide +kernel
theorem dX1_wordAt_36 : decode cX1_wordAt 36 = .ok (.invokestatic 85, 3) := by decide +kernel
theorem dX1_wordAt_39 : decode cX1_wordAt 39 = .ok (.iconst 2, 1) := by decide +kernel
theorem dX1_wordAt_40 : decode cX1_wordAt 40 = .ok (.if_icmp .ne 17, 3) := by decide +kernel
theorem dX1_wordAt_43 : decode cX1_wordAt 43 = .ok (.lload 4, 2) := by decide +kernel
theorem dX1_wordAt_45 : decode cX1_wordAt 45 = .ok (.aload_n 0, 1) := by decide +kernel
theorem dX1_wordAt_46 : decode cX1_wordAt 46 = .ok (.iload_n 2, 1) := by decide +kernel
theorem dX1_wordAt_47 : decode cX1_wordAt 47 = .ok (.invokevirtual 162, 3) := by decide +kernel
theorem dX1_wordAt_50 : decode cX1_wordAt 50 = .ok (.iconst 4, 1) := by decide +kernel
theorem dX1_wordAt_51 : decode cX1_wordAt 51 = .ok (.iload 6, 2) := by decide +kernel
theorem dX1_wordAt_53 : decode cX1_wordAt 53 = .ok (.imul, 1) := by decide +kernel
theorem dX1_wordAt_54 : decode cX1_wordAt 54 = .ok (.lshl, 1) := by decide +kernel
theorem dX1_wordAt_55 : decode cX1_wordAt 55 = .ok (.lor, 1) := by decide +kernel
theorem dX1_wordAt_56 : decode cX1_wordAt 56 = .ok (.lreturn, 1) := by decide +kernel
theorem dX1_wordAt_57 : decode cX1_wordAt 57 = .ok (.aload_n 0, 1) := by decide +kernel
theorem dX1_wordAt_58 : decode cX1_wordAt 58 = .ok (.iload_n 2, 1) := by decide +kernel
theorem dX1_wordAt_59 : decode cX1_wordAt 59 = .ok (.iload_n 3, 1) := by decide +kernel
theorem dX1_wordAt_60 : decode cX1_wordAt 60 = .ok (.invokevirtual 178, 3) := by decide +kernel
theorem dX1_wordAt_63 : decode cX1_wordAt 63 = .ok (.istore 7, 2) := by decide +kernel
theorem dX1_wordAt_65 : decode cX1_wordAt 65 = .ok (.iload_n 3, 1) := by decide +kernel
theorem dX1_wordAt_66 : decode cX1_wordAt 66 = .ok (.aload_n 0, 1) := by decide +kernel
theorem dX1_wordAt_67 : decode cX1_wordAt 67 = .ok (.iload_n 2, 1) := by decide +kernel
