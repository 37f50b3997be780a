set_option maxRecDepth 20000 in
theorem gX4_leafOf_X4_isEnd : GoodIn wsX4_leafOf (wsV RX4 92 RX4 yX4_isEnd wsX4_isEnd) := goodIn_app (goodIn_of _ (by decide +kernel)) ggX4_leafOf_X4_isEnd
theorem dX4_leafOf_0 : decode cX4_leafOf 0 = .ok (.iconst 0, 1) := by decide +kernel
theorem dX4_leafOf_1 : decode cX4_leafOf 1 = .ok (.istore_n 3, 1) := by decide +kernel
theorem dX4_leafOf_2 : decode cX4_leafOf 2 = .ok (.iconst 0, 1) := by decide +kernel
theorem dX4_leafOf_3 : decode cX4_leafOf 3 = .ok (.istore 4, 2) := by decide +kernel
theorem dX4_leafOf_5 : decode cX4_leafOf 5 = .ok (.iload_n 3, 1) := by decide +kernel
theorem dX4_leafOf_6 : decode cX4_leafOf 6 = .ok (.iconst (-1), 1) := by decide +kernel
theorem dX4_leafOf_7 : decode cX4_leafOf 7 = .ok (.if_icmp .eq 37, 3) := by decide +kernel
theorem dX4_leafOf_10 : decode cX4_leafOf 10 = .ok (.aload_n 0, 1) := by decide +kernel
theorem dX4_leafOf_11 : decode cX4_leafOf 11 = .ok (.iload_n 3, 1) := by decide +kernel
theorem dX4_leafOf_12 : decode cX4_leafOf 12 = .ok (.invokevirtual 123, 3) := by decide +kernel
theorem dX4_leafOf_15 : decode cX4_leafOf 15 = .ok (.ifCond .ne 29, 3) := by decide +kernel
theorem dX4_leafOf_18 : decode cX4_leafOf 18 = .ok (.aload_n 0, 1) := by decide +kernel
theorem dX4_leafOf_19 : decode cX4_leafOf 19 = .ok (.iload_n 3, 1) := by decide +kernel
theorem dX4_leafOf_20 : decode cX4_leafOf 20 = .ok (.iload 4, 2) := by decide +kernel
theorem dX4_leafOf_22 : decode cX4_leafOf 22 = .ok (.iload_n 2, 1) := by decide +kernel
theorem dX4_leafOf_23 : decode cX4_leafOf 23 = .ok (.if_icmp .ge 10, 3) := by decide +kernel
theorem dX4_leafOf_26 : decode cX4_leafOf 26 = .ok (.aload_n 1, 1) := by decide +kernel
theorem dX4_leafOf_27 : decode cX4_leafOf 27 = .ok (.iload 4, 2) := by decide +kernel
theorem dX4_leafOf_29 : decode cX4_leafOf 29 = .ok (.iaload, 1) := by decide +kernel
theorem dX4_leafOf_30 : decode cX4_leafOf 30 = .ok (.goto 4, 3) := by decide +kernel
theorem dX4_leafOf_33 : decode cX4_leafOf 33 = .ok (.iconst 0, 1) := by decide +kernel
theorem dX4_leafOf_34 : decode cX4_leafOf 34 = .ok (.invokevirtual 59, 3) := by decide +kernel
theorem dX4_leafOf_37 : decode cX4_leafOf 37 = .ok (.istore_n 3, 1) := by decide +kernel
theorem dX4_leafOf_38 : decode cX4_leafOf 38 = .ok (.iinc 4 1, 3) := by decide +kernel
theorem dX4_leafOf_41 : decode cX4_leafOf 41 = .ok (.goto (-36), 3) := by decide +kernel
theorem dX4_leafOf_44 : decode cX4_leafOf 44 = .ok (.iload_n 3, 1) := by decide +kernel
theorem dX4_leafOf_45 : decode cX4_leafOf 45 = .ok (.iconst (-1), 1) := by decide +kernel
theorem dX4_leafOf_46 : decode cX4_leafOf 46 = .ok (.if_icmp .eq 7, 3) := by decide +kernel
theorem dX4_leafOf_49 : decode cX4_leafOf 49 = .ok (.iload_n 2, 1) := by decide +kernel
theorem dX4_leafOf_50 : decode cX4_leafOf 50 = .ok (.ifCond .ne 5, 3) := by decide +kernel
theorem dX4_leafOf_53 : decode cX4_leafOf 53 = .ok (.iconst (-1), 1) := by decide +kernel
theorem dX4_leafOf_54 : decode cX4_leafOf 54 = .ok (.ireturn, 1) := by decide +kernel
theorem dX4_leafOf_55 : decode cX4_leafOf 55 = .ok (.aload_n 0, 1) := by decide +kernel
theorem dX4_leafOf_56 : decode cX4_leafOf 56 = .ok (.aload_n 0, 1) := by decide +kernel
theorem dX4_leafOf_57 : decode cX4_leafOf 57 = .ok (.getfield 7, 3) := by decide +kernel
theorem dX4_leafOf_60 : decode cX4_leafOf 60 = .ok (.sipush 640, 3) := by decide +kernel
theorem dX4_leafOf_63 : decode cX4_leafOf 63 = .ok (.iload_n 3, 1) := by decide +kernel
theorem dX4_leafOf_64 : decode cX4_leafOf 64 = .ok (.iadd, 1) := by decide +kernel
theorem dX4_leafOf_65 : decode cX4_leafOf 65 = .ok (.iaload, 1) := by decide +kernel
theorem dX4_leafOf_66 : decode cX4_leafOf 66 = .ok (.aload_n 1, 1) := by decide +kernel
theorem dX4_leafOf_67 : decode cX4_leafOf 67 = .ok (.iload 4, 2) := by decide +kernel
theorem dX4_leafOf_69 : decode cX4_leafOf 69 = .ok (.iload_n 2, 1) := by decide +kernel
theorem dX4_leafOf_70 : decode cX4_leafOf 70 = .ok (.if_icmp .ge 8, 3) := by decide +kernel
theorem dX4_leafOf_73 : decode cX4_leafOf 73 = .ok (.iload 4, 2) := by decide +kernel
theorem dX4_leafOf_75 : decode cX4_leafOf 75 = .ok (.goto 4, 3) := by decide +kernel
theorem dX4_leafOf_78 : decode cX4_leafOf 78 = .ok (.iload_n 2, 1) := by decide +kernel
theorem dX4_leafOf_79 : decode cX4_leafOf 79 = .ok (.iload_n 2, 1) := by decide +kernel
theorem dX4_leafOf_80 : decode cX4_leafOf 80 = .ok (.invokevirtual 92, 3) := by decide +kernel
theorem dX4_leafOf_83 : decode cX4_leafOf 83 = .ok (.ifCond .eq 7, 3) := by decide +kernel
theorem dX4_leafOf_86 : decode cX4_leafOf 86 = .ok (.iload_n 3, 1) := by decide +kernel
theorem dX4_leafOf_87 : decode cX4_leafOf 87 = .ok (.goto 4, 3) := by decide +kernel
theorem dX4_leafOf_90 : decode cX4_leafOf 90 = .ok (.iconst (-1), 1) := by decide +kernel
theorem dX4_leafOf_91 : decode cX4_leafOf 91 = .ok (.ireturn, 1) := by decide +kernel
set_option maxRecDepth 20000 in
theorem ggX4_removeLeaf_X4_dropEnd : GoodIn wsX4_removeLeaf wsX4_dropEnd := goodIn_r _ [6, 1, 27, 28, 29, 30, 31, 32, 33, 34, 35, 36, 37, 38, 39, 40, 41, 42] (by decide +kernel) (by decide +kernel)
set_option maxRecDepth 20000 in
theorem gX4_removeLeaf_X4_dropEnd : GoodIn wsX4_removeLeaf (wsV RX4 116 RX4 yX4_dropEnd wsX4_dropEnd) := goodIn_app (goodIn_of _ (by decide +kernel)) ggX4_removeLeaf_X4_dropEnd
set_option maxRecDepth 20000 in
theorem ggX4_removeLeaf_X4_lettersOf : GoodIn wsX4_removeLeaf wsX4_lettersOf := goodIn_r _ [10, 11, 12, 13, 5, 14, 1, 15, 16, 17, 18, 19, 20, 21, 22, 27, 28, 29, 30, 31, 32, 33, 34, 35, 36, 37, 38, 39, 40, 41, 42] (by decide +kernel) (by decide +kernel)
set_option maxRecDepth 20000 in
theorem gX4_removeLeaf_X4_lettersOf : GoodIn wsX4_removeLeaf (wsV RX4 67 RX4 yX4_lettersOf wsX4_lettersOf) := goodIn_app (goodIn_of _ (by decide +kernel)) ggX4_removeLeaf_X4_lettersOf
set_option maxRecDepth 20000 in
theorem ggX4_removeLeaf_X4_free : GoodIn wsX4_removeLeaf wsX4_free := goodIn_r _ [26, 1, 27, 28, 29, 30, 31, 32, 33, 34, 35, 36, 37, 38, 39, 40, 41, 42] (by decide +kernel) (by decide +kernel)
set_option maxRecDepth 20000 in
theorem gX4_removeLeaf_X4_free : GoodIn wsX4_removeLeaf (wsV RX4 44 RX4 yX4_free wsX4_free) := goodIn_app (goodIn_of _ (by decide +kernel)) ggX4_removeLeaf_X4_free
theorem dX4_removeLeaf_0 : decode cX4_removeLeaf 0 = .ok (.aload_n 0, 1) := by decide +kernel
theorem dX4_removeLeaf_1 : decode cX4_removeLeaf 1 = .ok (.iload_n 1, 1) := by decide +kernel
theorem dX4_removeLeaf_2 : decode cX4_removeLeaf 2 = .ok (.invokevirtual 116, 3) := by decide +kernel
theorem dX4_removeLeaf_5 : decode cX4_removeLeaf 5 = .ok (.iconst 0, 1) := by decide +kernel
theorem dX4_removeLeaf_6 : decode cX4_removeLeaf 6 = .ok (.istore_n 2, 1) := by decide +kernel
theorem dX4_removeLeaf_7 : decode cX4_removeLeaf 7 = .ok (.iload_n 1, 1) := by decide +kernel
theorem dX4_removeLeaf_8 : decode cX4_removeLeaf 8 = .ok (.istore_n 3, 1) := by decide +kernel
theorem dX4_removeLeaf_9 : decode cX4_removeLeaf 9 = .ok (.iload_n 3, 1) := by decide +kernel
theorem dX4_removeLeaf_10 : decode cX4_removeLeaf 10 = .ok (.ifCond .eq 37, 3) := by decide +kernel
theorem dX4_removeLeaf_13 : decode cX4_removeLeaf 13 = .ok (.aload_n 0, 1) := by decide +kernel
theorem dX4_removeLeaf_14 : decode cX4_removeLeaf 14 = .ok (.iload_n 3, 1) := by decide +kernel
theorem dX4_removeLeaf_15 : decode cX4_removeLeaf 15 = .ok (.invokevirtual 67, 3) := by decide +kernel
theorem dX4_removeLeaf_18 : decode cX4_removeLeaf 18 = .ok (.ifCond .ne 29, 3) := by decide +kernel
theorem dX4_removeLeaf_21 : decode cX4_removeLeaf 21 = .ok (.aload_n 0, 1) := by decide +kernel
theorem dX4_removeLeaf_22 : decode cX4_removeLeaf 22 = .ok (.getfield 7, 3) := by decide +kernel
theorem dX4_removeLeaf_25 : decode cX4_removeLeaf 25 = .ok (.sipush 160, 3) := by decide +kernel
theorem dX4_removeLeaf_28 : decode cX4_removeLeaf 28 = .ok (.iload_n 3, 1) := by decide +kernel
theorem dX4_removeLeaf_29 : decode cX4_removeLeaf 29 = .ok (.iadd, 1) := by decide +kernel
theorem dX4_removeLeaf_30 : decode cX4_removeLeaf 30 = .ok (.iaload, 1) := by decide +kernel
theorem dX4_removeLeaf_31 : decode cX4_removeLeaf 31 = .ok (.istore 4, 2) := by decide +kernel
theorem dX4_removeLeaf_33 : decode cX4_removeLeaf 33 = .ok (.aload_n 0, 1) := by decide +kernel
theorem dX4_removeLeaf_34 : decode cX4_removeLeaf 34 = .ok (.iload_n 3, 1) := by decide +kernel
theorem dX4_removeLeaf_35 : decode cX4_removeLeaf 35 = .ok (.invokevirtual 44, 3) := by decide +kernel
theorem dX4_removeLeaf_38 : decode cX4_removeLeaf 38 = .ok (.iinc 2 1, 3) := by decide +kernel
theorem dX4_removeLeaf_41 : decode cX4_removeLeaf 41 = .ok (.iload 4, 2) := by decide +kernel
theorem dX4_removeLeaf_43 : decode cX4_removeLeaf 43 = .ok (.istore_n 3, 1) := by decide +kernel
theorem dX4_removeLeaf_44 : decode cX4_removeLeaf 44 = .ok (.goto (-35), 3) := by decide +kernel
theorem dX4_removeLeaf_47 : decode cX4_removeLeaf 47 = .ok (.aload_n 0, 1) := by decide +kernel
theorem dX4_removeLeaf_48 : decode cX4_removeLeaf 48 = .ok (.iload_n 3, 1) := by decide +kernel
theorem dX4_removeLeaf_49 : decode cX4_removeLeaf 49 = .ok (.invokevirtual 67, 3) := by decide +kernel
theorem dX4_removeLeaf_52 : decode cX4_removeLeaf 52 = .ok (.ifCond .ne 14, 3) := by decide +kernel
theorem dX4_removeLeaf_55 : decode cX4_removeLeaf 55 = .ok (.aload_n 0, 1) := by decide +kernel
theorem dX4_removeLeaf_56 : decode cX4_removeLeaf 56 = .ok (.getfield 7, 3) := by decide +kernel
theorem dX4_removeLeaf_59 : decode cX4_removeLeaf 59 = .ok (.sipush 480, 3) := by decide +kernel
theorem dX4_removeLeaf_62 : decode cX4_removeLeaf 62 = .ok (.iload_n 3, 1) := by decide +kernel
theorem dX4_removeLeaf_63 : decode cX4_removeLeaf 63 = .ok (.iadd, 1) := by decide +kernel
theorem dX4_removeLeaf_64 : decode cX4_removeLeaf 64 = .ok (.iconst 0, 1) := by decide +kernel
theorem dX4_removeLeaf_65 : decode cX4_removeLeaf 65 = .ok (.iastore, 1) := by decide +kernel
theorem dX4_removeLeaf_66 : decode cX4_removeLeaf 66 = .ok (.iload_n 2, 1) := by decide +kernel
theorem dX4_removeLeaf_67 : decode cX4_removeLeaf 67 = .ok (.ireturn, 1) := by decide +kernel
set_option maxRecDepth 20000 in
theorem ggX4_remove_X4_leafOf : GoodIn wsX4_remove wsX4_leafOf := goodIn_r _ [8, 9, 10, 11, 12, 7, 13, 14, 15, 16, 17, 18, 19, 20, 21, 22, 23, 24, 25, 26, 27, 28, 29, 30, 31, 32, 33, 34, 35, 36, 37, 38, 39, 40, 41, 64, 65, 66, 67, 68, 69, 70, 71, 72, 73, 74, 75, 76, 77, 78, 79] (by decide +kernel) (by decide +kernel)
set_option maxRecDepth 20000 in
theorem gX4_remove_X4_leafOf : GoodIn wsX4_remove (wsV RX4 154 RX4 yX4_leafOf wsX4_leafOf) := goodIn_app (goodIn_of _ (by decide +kernel)) ggX4_remove_X4_leafOf
set_option maxRecDepth 20000 in
theorem ggX4_remove_X4_save : GoodIn wsX4_remove wsX4_save := goodIn_r _ [45, 46, 47, 9, 64, 65, 66, 67, 68, 69, 70, 71, 72, 73, 74, 75, 76, 77, 78, 79] (by decide +kernel) (by decide +kernel)
set_option maxRecDepth 20000 in
theorem gX4_remove_X4_save : GoodIn wsX4_remove (wsV RX4 151 RX4 yX4_save wsX4_save) := goodIn_app (goodIn_of _ (by decide +kernel)) ggX4_remove_X4_save
set_option maxRecDepth 20000 in
theorem ggX4_remove_X4_removeLeaf : GoodIn wsX4_remove wsX4_removeLeaf := goodIn_r _ [51, 9, 52, 53, 54, 7, 55, 56, 57, 58, 59, 14, 15, 16, 17, 18, 19, 20, 21, 22, 23, 24, 25, 60, 61, 62, 63, 64, 65, 66, 67, 68, 69, 70, 71, 72, 73, 74, 75, 76, 77, 78, 79] (by decide +kernel) (by decide +kernel)
set_option maxRecDepth 20000 in
theorem gX4_remove_X4_removeLeaf : GoodIn wsX4_remove (wsV RX4 157 RX4 yX4_removeLeaf wsX4_removeLeaf) := goodIn_app (goodIn_of _ (by decide +kernel)) ggX4_remove_X4_removeLeaf
theorem dX4_remove_0 : decode cX4_remove 0 = .ok (.aload_n 0, 1) := by decide +kernel
theorem dX4_remove_1 : decode cX4_remove 1 = .ok (.aload_n 0, 1) := by decide +kernel
theorem dX4_remove_2 : decode cX4_remove 2 = .ok (.getfield 19, 3) := by decide +kernel
theorem dX4_remove_5 : decode cX4_remove 5 = .ok (.aload_n 0, 1) := by decide +kernel
theorem dX4_remove_6 : decode cX4_remove 6 = .ok (.getfield 133, 3) := by decide +kernel
theorem dX4_remove_9 : decode cX4_remove 9 = .ok (.invokevirtual 154, 3) := by decide +kernel
theorem dX4_remove_12 : decode cX4_remove 12 = .ok (.istore_n 1, 1) := by decide +kernel
theorem dX4_remove_13 : decode cX4_remove 13 = .ok (.aload_n 0, 1) := by decide +kernel
theorem dX4_remove_14 : decode cX4_remove 14 = .ok (.aload_n 0, 1) := by decide +kernel
theorem dX4_remove_15 : decode cX4_remove 15 = .ok (.getfield 133, 3) := by decide +kernel
theorem dX4_remove_18 : decode cX4_remove 18 = .ok (.ifCond .ne 7, 3) := by decide +kernel
theorem dX4_remove_21 : decode cX4_remove 21 = .ok (.iconst 1, 1) := by decide +kernel
theorem dX4_remove_22 : decode cX4_remove 22 = .ok (.goto 13, 3) := by decide +kernel
theorem dX4_remove_25 : decode cX4_remove 25 = .ok (.iload_n 1, 1) := by decide +kernel
theorem dX4_remove_26 : decode cX4_remove 26 = .ok (.iconst (-1), 1) := by decide +kernel
theorem dX4_remove_27 : decode cX4_remove 27 = .ok (.if_icmp .ne 7, 3) := by decide +kernel
theorem dX4_remove_30 : decode cX4_remove 30 = .ok (.iconst 2, 1) := by decide +kernel
theorem dX4_remove_31 : decode cX4_remove 31 = .ok (.goto 4, 3) := by decide +kernel
theorem dX4_remove_34 : decode cX4_remove 34 = .ok (.iconst 0, 1) := by decide +kernel
theorem dX4_remove_35 : decode cX4_remove 35 = .ok (.putfield 40, 3) := by decide +kernel
theorem dX4_remove_38 : decode cX4_remove 38 = .ok (.aload_n 0, 1) := by decide +kernel
theorem dX4_remove_39 : decode cX4_remove 39 = .ok (.getfield 40, 3) := by decide +kernel
theorem dX4_remove_42 : decode cX4_remove 42 = .ok (.ifCond .le 5, 3) := by decide +kernel
theorem dX4_remove_45 : decode cX4_remove 45 = .ok (.iconst 0, 1) := by decide +kernel
theorem dX4_remove_46 : decode cX4_remove 46 = .ok (.ireturn, 1) := by decide +kernel
theorem dX4_remove_47 : decode cX4_remove 47 = .ok (.aload_n 0, 1) := by decide +kernel
theorem dX4_remove_48 : decode cX4_remove 48 = .ok (.invokevirtual 151, 3) := by decide +kernel
theorem dX4_remove_51 : decode cX4_remove 51 = .ok (.aload_n 0, 1) := by decide +kernel
theorem dX4_remove_52 : decode cX4_remove 52 = .ok (.iload_n 1, 1) := by decide +kernel
theorem dX4_remove_53 : decode cX4_remove 53 = .ok (.invokevirtual 157, 3) := by decide +kernel
theorem dX4_remove_56 : decode cX4_remove 56 = .ok (.ireturn, 1) := by decide +kernel
set_option maxRecDepth 20000 in
theorem ggX4_layBelow_X4_isLeaf : GoodIn wsX4_layBelow wsX4_isLeaf := goodIn_r _ [7, 2, 8, 9, 10, 11, 12, 13, 14, 15, 16, 17, 18, 19, 20, 21, 22, 23] (by decide +kernel) (by decide +kernel)
set_option maxRecDepth 20000 in
theorem gX4_layBelow_X4_isLeaf : GoodIn wsX4_layBelow (wsV RX4 123 RX4 yX4_isLeaf wsX4_isLeaf) := goodIn_app (goodIn_of _ (by decide +kernel)) ggX4_layBelow_X4_isLeaf
theorem dX4_layBelow_0 : decode cX4_layBelow 0 = .ok (.iconst 0, 1) := by decide +kernel
theorem dX4_layBelow_1 : decode cX4_layBelow 1 = .ok (.istore_n 1, 1) := by decide +kernel
theorem dX4_layBelow_2 : decode cX4_layBelow 2 = .ok (.iload_n 1, 1) := by decide +kernel
theorem dX4_layBelow_3 : decode cX4_layBelow 3 = .ok (.sipush 160, 3) := by decide +kernel
theorem dX4_layBelow_6 : decode cX4_layBelow 6 = .ok (.if_icmp .ge 16, 3) := by decide +kernel
theorem dX4_layBelow_9 : decode cX4_layBelow 9 = .ok (.aload_n 0, 1) := by decide +kernel
theorem dX4_layBelow_10 : decode cX4_layBelow 10 = .ok (.getfield 25, 3) := by decide +kernel
theorem dX4_layBelow_13 : decode cX4_layBelow 13 = .ok (.iload_n 1, 1) := by decide +kernel
theorem dX4_layBelow_14 : decode cX4_layBelow 14 = .ok (.iconst 0, 1) := by decide +kernel
theorem dX4_layBelow_15 : decode cX4_layBelow 15 = .ok (.iastore, 1) := by decide +kernel
theorem dX4_layBelow_16 : decode cX4_layBelow 16 = .ok (.iinc 1 1, 3) := by decide +kernel
theorem dX4_layBelow_19 : decode cX4_layBelow 19 = .ok (.goto (-17), 3) := by decide +kernel
theorem dX4_layBelow_22 : decode cX4_layBelow 22 = .ok (.iconst 0, 1) := by decide +kernel
theorem dX4_layBelow_23 : decode cX4_layBelow 23 = .ok (.istore_n 1, 1) := by decide +kernel
theorem dX4_layBelow_24 : decode cX4_layBelow 24 = .ok (.iload_n 1, 1) := by decide +kernel
theorem dX4_layBelow_25 : decode cX4_layBelow 25 = .ok (.sipush 160, 3) := by decide +kernel
theorem dX4_layBelow_28 : decode cX4_layBelow 28 = .ok (.if_icmp .ge 48, 3) := by decide +kernel
theorem dX4_layBelow_31 : decode cX4_layBelow 31 = .ok (.aload_n 0, 1) := by decide +kernel
theorem dX4_layBelow_32 : decode cX4_layBelow 32 = .ok (.iload_n 1, 1) := by decide +kernel
theorem dX4_layBelow_33 : decode cX4_layBelow 33 = .ok (.invokevirtual 123, 3) := by decide +kernel
theorem dX4_layBelow_36 : decode cX4_layBelow 36 = .ok (.ifCond .eq 34, 3) := by decide +kernel
theorem dX4_layBelow_39 : decode cX4_layBelow 39 = .ok (.iload_n 1, 1) := by decide +kernel
theorem dX4_layBelow_40 : decode cX4_layBelow 40 = .ok (.istore_n 2, 1) := by decide +kernel
theorem dX4_layBelow_41 : decode cX4_layBelow 41 = .ok (.iload_n 2, 1) := by decide +kernel
theorem dX4_layBelow_42 : decode cX4_layBelow 42 = .ok (.iconst (-1), 1) := by decide +kernel
theorem dX4_layBelow_43 : decode cX4_layBelow 43 = .ok (.if_icmp .eq 27, 3) := by decide +kernel
theorem dX4_layBelow_46 : decode cX4_layBelow 46 = .ok (.aload_n 0, 1) := by decide +kernel
theorem dX4_layBelow_47 : decode cX4_layBelow 47 = .ok (.getfield 25, 3) := by decide +kernel
theorem dX4_layBelow_50 : decode cX4_layBelow 50 = .ok (.iload_n 2, 1) := by decide +kernel
theorem dX4_layBelow_51 : decode cX4_layBelow 51 = .ok (.dup2, 1) := by decide +kernel
theorem dX4_layBelow_52 : decode cX4_layBelow 52 = .ok (.iaload, 1) := by decide +kernel
theorem dX4_layBelow_53 : decode cX4_layBelow 53 = .ok (.iconst 1, 1) := by decide +kernel
theorem dX4_layBelow_54 : decode cX4_layBelow 54 = .ok (.iadd, 1) := by decide +kernel
theorem dX4_layBelow_55 : decode cX4_layBelow 55 = .ok (.iastore, 1) := by decide +kernel
theorem dX4_layBelow_56 : decode cX4_layBelow 56 = .ok (.aload_n 0, 1) := by decide +kernel
theorem dX4_layBelow_57 : decode cX4_layBelow 57 = .ok (.getfield 7, 3) := by decide +kernel
theorem dX4_layBelow_60 : decode cX4_layBelow 60 = .ok (.sipush 160, 3) := by decide +kernel
theorem dX4_layBelow_63 : decode cX4_layBelow 63 = .ok (.iload_n 2, 1) := by decide +kernel
theorem dX4_layBelow_64 : decode cX4_layBelow 64 = .ok (.iadd, 1) := by decide +kernel
theorem dX4_layBelow_65 : decode cX4_layBelow 65 = .ok (.iaload, 1) := by decide +kernel
theorem dX4_layBelow_66 : decode cX4_layBelow 66 = .ok (.istore_n 2, 1) := by decide +kernel
theorem dX4_layBelow_67 : decode cX4_layBelow 67 = .ok (.goto (-26), 3) := by decide +kernel
theorem dX4_layBelow_70 : decode cX4_layBelow 70 = .ok (.iinc 1 1, 3) := by decide +kernel
theorem dX4_layBelow_73 : decode cX4_layBelow 73 = .ok (.goto (-49), 3) := by decide +kernel
theorem dX4_layBelow_76 : decode cX4_layBelow 76 = .ok (.return_, 1) := by decide +kernel
set_option maxRecDepth 20000 in
theorem ggX4_layWord_X4_isLeaf : GoodIn wsX4_layWord wsX4_isLeaf := goodIn_r _ [10, 3, 31, 32, 33, 34, 35, 36, 37, 38, 39, 40, 41, 42, 43, 44, 45, 46] (by decide +kernel) (by decide +kernel)
set_option maxRecDepth 20000 in
theorem gX4_layWord_X4_isLeaf : GoodIn wsX4_layWord (wsV RX4 123 RX4 yX4_isLeaf wsX4_isLeaf) := goodIn_app (goodIn_of _ (by decide +kernel)) ggX4_layWord_X4_isLeaf
set_option maxRecDepth 20000 in
theorem ggX4_layWord_X4_child : GoodIn wsX4_layWord wsX4_child := goodIn_r _ [14, 3, 15, 16, 17, 9, 18, 19, 20, 21, 22, 31, 32, 33, 34, 35, 36, 37, 38, 39, 40, 41, 42, 43, 44, 45, 46] (by decide +kernel) (by decide +kernel)
set_option maxRecDepth 20000 in
theorem gX4_layWord_X4_child : GoodIn wsX4_layWord (wsV RX4 59 RX4 yX4_child wsX4_child) := goodIn_app (goodIn_of _ (by decide +kernel)) ggX4_layWord_X4_child
set_option maxRecDepth 20000 in
theorem ggX4_layWord_X4_lengthOf : GoodIn wsX4_layWord wsX4_lengthOf := goodIn_r _ [26, 3, 31, 32, 33, 34, 35, 36, 37, 38, 39, 40, 41, 42, 43, 44, 45, 46] (by decide +kernel) (by decide +kernel)
set_option maxRecDepth 20000 in
theorem gX4_layWord_X4_lengthOf : GoodIn wsX4_layWord (wsV RX4 86 RX4 yX4_lengthOf wsX4_lengthOf) := goodIn_app (goodIn_of _ (by decide +kernel)) ggX4_layWord_X4_lengthOf
set_option maxRecDepth 20000 in
theorem ggX4_layWord_X4_letterOf : GoodIn wsX4_layWord wsX4_letterOf := goodIn_r _ [30, 3, 31, 32, 33, 34, 35, 36, 37, 38, 39, 40, 41, 42, 43, 44, 45, 46] (by decide +kernel) (by decide +kernel)
set_option maxRecDepth 20000 in
theorem gX4_layWord_X4_letterOf : GoodIn wsX4_layWord (wsV RX4 89 RX4 yX4_letterOf wsX4_letterOf) := goodIn_app (goodIn_of _ (by decide +kernel)) ggX4_layWord_X4_letterOf
theorem dX4_layWord_0 : decode cX4_layWord 0 = .ok (.iload_n 1, 1) := by decide +kernel
theorem dX4_layWord_1 : decode cX4_layWord 1 = .ok (.istore_n 2, 1) := by decide +kernel
theorem dX4_layWord_2 : decode cX4_layWord 2 = .ok (.iconst 0, 1) := by decide +kernel
theorem dX4_layWord_3 : decode cX4_layWord 3 = .ok (.istore_n 3, 1) := by decide +kernel
theorem dX4_layWord_4 : decode cX4_layWord 4 = .ok (.aload_n 0, 1) := by decide +kernel
theorem dX4_layWord_5 : decode cX4_layWord 5 = .ok (.iconst 0, 1) := by decide +kernel
theorem dX4_layWord_6 : decode cX4_layWord 6 = .ok (.putfield 160, 3) := by decide +kernel
theorem dX4_layWord_9 : decode cX4_layWord 9 = .ok (.aload_n 0, 1) := by decide +kernel
theorem dX4_layWord_10 : decode cX4_layWord 10 = .ok (.iload_n 3, 1) := by decide +kernel
theorem dX4_layWord_11 : decode cX4_layWord 11 = .ok (.invokevirtual 123, 3) := by decide +kernel
theorem dX4_layWord_14 : decode cX4_layWord 14 = .ok (.ifCond .ne 129, 3) := by decide +kernel
theorem dX4_layWord_17 : decode cX4_layWord 17 = .ok (.iconst (-1), 1) := by decide +kernel
theorem dX4_layWord_18 : decode cX4_layWord 18 = .ok (.istore 4, 2) := by decide +kernel
theorem dX4_layWord_20 : decode cX4_layWord 20 = .ok (.iconst 0, 1) := by decide +kernel
theorem dX4_layWord_21 : decode cX4_layWord 21 = .ok (.istore 5, 2) := by decide +kernel
theorem dX4_layWord_23 : decode cX4_layWord 23 = .ok (.iload 5, 2) := by decide +kernel
theorem dX4_layWord_25 : decode cX4_layWord 25 = .ok (.bipush 9, 2) := by decide +kernel
theorem dX4_layWord_27 : decode cX4_layWord 27 = .ok (.if_icmp .ge 68, 3) := by decide +kernel
theorem dX4_layWord_30 : decode cX4_layWord 30 = .ok (.iload 4, 2) := by decide +kernel
theorem dX4_layWord_32 : decode cX4_layWord 32 = .ok (.iconst (-1), 1) := by decide +kernel
theorem dX4_layWord_33 : decode cX4_layWord 33 = .ok (.if_icmp .ne 62, 3) := by decide +kernel
theorem dX4_layWord_36 : decode cX4_layWord 36 = .ok (.aload_n 0, 1) := by decide +kernel
theorem dX4_layWord_37 : decode cX4_layWord 37 = .ok (.iload_n 3, 1) := by decide +kernel
theorem dX4_layWord_38 : decode cX4_layWord 38 = .ok (.iload 5, 2) := by decide +kernel
theorem dX4_layWord_40 : decode cX4_layWord 40 = .ok (.invokevirtual 59, 3) := by decide +kernel
theorem dX4_layWord_43 : decode cX4_layWord 43 = .ok (.istore 6, 2) := by decide +kernel
theorem dX4_layWord_45 : decode cX4_layWord 45 = .ok (.iload 6, 2) := by decide +kernel
theorem dX4_layWord_47 : decode cX4_layWord 47 = .ok (.iconst (-1), 1) := by decide +kernel
theorem dX4_layWord_48 : decode cX4_layWord 48 = .ok (.if_icmp .eq 21, 3) := by decide +kernel
theorem dX4_layWord_51 : decode cX4_layWord 51 = .ok (.iload_n 2, 1) := by decide +kernel
theorem dX4_layWord_52 : decode cX4_layWord 52 = .ok (.aload_n 0, 1) := by decide +kernel
theorem dX4_layWord_53 : decode cX4_layWord 53 = .ok (.getfield 25, 3) := by decide +kernel
theorem dX4_layWord_56 : decode cX4_layWord 56 = .ok (.iload 6, 2) := by decide +kernel
theorem dX4_layWord_58 : decode cX4_layWord 58 = .ok (.iaload, 1) := by decide +kernel
theorem dX4_layWord_59 : decode cX4_layWord 59 = .ok (.if_icmp .ge 10, 3) := by decide +kernel
theorem dX4_layWord_62 : decode cX4_layWord 62 = .ok (.iload 6, 2) := by decide +kernel
theorem dX4_layWord_64 : decode cX4_layWord 64 = .ok (.istore 4, 2) := by decide +kernel
theorem dX4_layWord_66 : decode cX4_layWord 66 = .ok (.goto 23, 3) := by decide +kernel
theorem dX4_layWord_69 : decode cX4_layWord 69 = .ok (.iload_n 2, 1) := by decide +kernel
theorem dX4_layWord_70 : decode cX4_layWord 70 = .ok (.iload 6, 2) := by decide +kernel
theorem dX4_layWord_72 : decode cX4_layWord 72 = .ok (.iconst (-1), 1) := by decide +kernel
theorem dX4_layWord_73 : decode cX4_layWord 73 = .ok (.if_icmp .ne 7, 3) := by decide +kernel
theorem dX4_layWord_76 : decode cX4_layWord 76 = .ok (.iconst 0, 1) := by decide +kernel
theorem dX4_layWord_77 : decode cX4_layWord 77 = .ok (.goto 10, 3) := by decide +kernel
theorem dX4_layWord_80 : decode cX4_layWord 80 = .ok (.aload_n 0, 1) := by decide +kernel
theorem dX4_layWord_81 : decode cX4_layWord 81 = .ok (.getfield 25, 3) := by decide +kernel
theorem dX4_layWord_84 : decode cX4_layWord 84 = .ok (.iload 6, 2) := by decide +kernel
theorem dX4_layWord_86 : decode cX4_layWord 86 = .ok (.iaload, 1) := by decide +kernel
theorem dX4_layWord_87 : decode cX4_layWord 87 = .ok (.isub, 1) := by decide +kernel
theorem dX4_layWord_88 : decode cX4_layWord 88 = .ok (.istore_n 2, 1) := by decide +kernel
theorem dX4_layWord_89 : decode cX4_layWord 89 = .ok (.iinc 5 1, 3) := by decide +kernel
theorem dX4_layWord_92 : decode cX4_layWord 92 = .ok (.goto (-69), 3) := by decide +kernel
theorem dX4_layWord_95 : decode cX4_layWord 95 = .ok (.iload 4, 2) := by decide +kernel
theorem dX4_layWord_97 : decode cX4_layWord 97 = .ok (.istore_n 3, 1) := by decide +kernel
theorem dX4_layWord_98 : decode cX4_layWord 98 = .ok (.aload_n 0, 1) := by decide +kernel
theorem dX4_layWord_99 : decode cX4_layWord 99 = .ok (.getfield 7, 3) := by decide +kernel
theorem dX4_layWord_102 : decode cX4_layWord 102 = .ok (.sipush 320, 3) := by decide +kernel
theorem dX4_layWord_105 : decode cX4_layWord 105 = .ok (.iload_n 3, 1) := by decide +kernel
theorem dX4_layWord_106 : decode cX4_layWord 106 = .ok (.iadd, 1) := by decide +kernel
theorem dX4_layWord_107 : decode cX4_layWord 107 = .ok (.iaload, 1) := by decide +kernel
theorem dX4_layWord_108 : decode cX4_layWord 108 = .ok (.ifCond .le 32, 3) := by decide +kernel
theorem dX4_layWord_111 : decode cX4_layWord 111 = .ok (.aload_n 0, 1) := by decide +kernel
theorem dX4_layWord_112 : decode cX4_layWord 112 = .ok (.getfield 28, 3) := by decide +kernel
theorem dX4_layWord_115 : decode cX4_layWord 115 = .ok (.aload_n 0, 1) := by decide +kernel
theorem dX4_layWord_116 : decode cX4_layWord 116 = .ok (.getfield 160, 3) := by decide +kernel
theorem dX4_layWord_119 : decode cX4_layWord 119 = .ok (.aload_n 0, 1) := by decide +kernel
theorem dX4_layWord_120 : decode cX4_layWord 120 = .ok (.getfield 7, 3) := by decide +kernel
theorem dX4_layWord_123 : decode cX4_layWord 123 = .ok (.sipush 320, 3) := by decide +kernel
theorem dX4_layWord_126 : decode cX4_layWord 126 = .ok (.iload_n 3, 1) := by decide +kernel
theorem dX4_layWord_127 : decode cX4_layWord 127 = .ok (.iadd, 1) := by decide +kernel
theorem dX4_layWord_128 : decode cX4_layWord 128 = .ok (.iaload, 1) := by decide +kernel
theorem dX4_layWord_129 : decode cX4_layWord 129 = .ok (.iastore, 1) := by decide +kernel
theorem dX4_layWord_130 : decode cX4_layWord 130 = .ok (.aload_n 0, 1) := by decide +kernel
theorem dX4_layWord_131 : decode cX4_layWord 131 = .ok (.dup, 1) := by decide +kernel
theorem dX4_layWord_132 : decode cX4_layWord 132 = .ok (.getfield 160, 3) := by decide +kernel
theorem dX4_layWord_135 : decode cX4_layWord 135 = .ok (.iconst 1, 1) := by decide +kernel
theorem dX4_layWord_136 : decode cX4_layWord 136 = .ok (.iadd, 1) := by decide +kernel
theorem dX4_layWord_137 : decode cX4_layWord 137 = .ok (.putfield 160, 3) := by decide +kernel
theorem dX4_layWord_140 : decode cX4_layWord 140 = .ok (.goto (-131), 3) := by decide +kernel
theorem dX4_layWord_143 : decode cX4_layWord 143 = .ok (.aload_n 0, 1) := by decide +kernel
theorem dX4_layWord_144 : decode cX4_layWord 144 = .ok (.iload_n 3, 1) := by decide +kernel
theorem dX4_layWord_145 : decode cX4_layWord 145 = .ok (.putfield 163, 3) := by decide +kernel
theorem dX4_layWord_148 : decode cX4_layWord 148 = .ok (.iconst 0, 1) := by decide +kernel
theorem dX4_layWord_149 : decode cX4_layWord 149 = .ok (.istore 4, 2) := by decide +kernel
theorem dX4_layWord_151 : decode cX4_layWord 151 = .ok (.iload 4, 2) := by decide +kernel
theorem dX4_layWord_153 : decode cX4_layWord 153 = .ok (.aload_n 0, 1) := by decide +kernel
theorem dX4_layWord_154 : decode cX4_layWord 154 = .ok (.aload_n 0, 1) := by decide +kernel
theorem dX4_layWord_155 : decode cX4_layWord 155 = .ok (.getfield 7, 3) := by decide +kernel
theorem dX4_layWord_158 : decode cX4_layWord 158 = .ok (.sipush 640, 3) := by decide +kernel
theorem dX4_layWord_161 : decode cX4_layWord 161 = .ok (.iload_n 3, 1) := by decide +kernel
theorem dX4_layWord_162 : decode cX4_layWord 162 = .ok (.iadd, 1) := by decide +kernel
theorem dX4_layWord_163 : decode cX4_layWord 163 = .ok (.iaload, 1) := by decide +kernel
theorem dX4_layWord_164 : decode cX4_layWord 164 = .ok (.invokevirtual 86, 3) := by decide +kernel
theorem dX4_layWord_167 : decode cX4_layWord 167 = .ok (.if_icmp .ge 44, 3) := by decide +kernel
theorem dX4_layWord_170 : decode cX4_layWord 170 = .ok (.aload_n 0, 1) := by decide +kernel
theorem dX4_layWord_171 : decode cX4_layWord 171 = .ok (.getfield 28, 3) := by decide +kernel
theorem dX4_layWord_174 : decode cX4_layWord 174 = .ok (.aload_n 0, 1) := by decide +kernel
theorem dX4_layWord_175 : decode cX4_layWord 175 = .ok (.getfield 160, 3) := by decide +kernel
theorem dX4_layWord_178 : decode cX4_layWord 178 = .ok (.aload_n 0, 1) := by decide +kernel
theorem dX4_layWord_179 : decode cX4_layWord 179 = .ok (.aload_n 0, 1) := by decide +kernel
theorem dX4_layWord_180 : decode cX4_layWord 180 = .ok (.getfield 7, 3) := by decide +kernel
theorem dX4_layWord_183 : decode cX4_layWord 183 = .ok (.sipush 640, 3) := by decide +kernel
theorem dX4_layWord_186 : decode cX4_layWord 186 = .ok (.iload_n 3, 1) := by decide +kernel
theorem dX4_layWord_187 : decode cX4_layWord 187 = .ok (.iadd, 1) := by decide +kernel
theorem dX4_layWord_188 : decode cX4_layWord 188 = .ok (.iaload, 1) := by decide +kernel
theorem dX4_layWord_189 : decode cX4_layWord 189 = .ok (.iload 4, 2) := by decide +kernel
theorem dX4_layWord_191 : decode cX4_layWord 191 = .ok (.invokevirtual 89, 3) := by decide +kernel
theorem dX4_layWord_194 : decode cX4_layWord 194 = .ok (.iastore, 1) := by decide +kernel
theorem dX4_layWord_195 : decode cX4_layWord 195 = .ok (.aload_n 0, 1) := by decide +kernel
theorem dX4_layWord_196 : decode cX4_layWord 196 = .ok (.dup, 1) := by decide +kernel
theorem dX4_layWord_197 : decode cX4_layWord 197 = .ok (.getfield 160, 3) := by decide +kernel
theorem dX4_layWord_200 : decode cX4_layWord 200 = .ok (.iconst 1, 1) := by decide +kernel
theorem dX4_layWord_201 : decode cX4_layWord 201 = .ok (.iadd, 1) := by decide +kernel
theorem dX4_layWord_202 : decode cX4_layWord 202 = .ok (.putfield 160, 3) := by decide +kernel
theorem dX4_layWord_205 : decode cX4_layWord 205 = .ok (.iinc 4 1, 3) := by decide +kernel
theorem dX4_layWord_208 : decode cX4_layWord 208 = .ok (.goto (-57), 3) := by decide +kernel
theorem dX4_layWord_211 : decode cX4_layWord 211 = .ok (.return_, 1) := by decide +kernel
theorem dX4_alike_0 : decode cX4_alike 0 = .ok (.iconst 0, 1) := by decide +kernel
theorem dX4_alike_1 : decode cX4_alike 1 = .ok (.istore_n 1, 1) := by decide +kernel
theorem dX4_alike_2 : decode cX4_alike 2 = .ok (.iload_n 1, 1) := by decide +kernel
theorem dX4_alike_3 : decode cX4_alike 3 = .ok (.aload_n 0, 1) := by decide +kernel
theorem dX4_alike_4 : decode cX4_alike 4 = .ok (.getfield 133, 3) := by decide +kernel
theorem dX4_alike_7 : decode cX4_alike 7 = .ok (.if_icmp .ge 32, 3) := by decide +kernel
theorem dX4_alike_10 : decode cX4_alike 10 = .ok (.iload_n 1, 1) := by decide +kernel
theorem dX4_alike_11 : decode cX4_alike 11 = .ok (.aload_n 0, 1) := by decide +kernel
theorem dX4_alike_12 : decode cX4_alike 12 = .ok (.getfield 160, 3) := by decide +kernel
theorem dX4_alike_15 : decode cX4_alike 15 = .ok (.if_icmp .ge 24, 3) := by decide +kernel
theorem dX4_alike_18 : decode cX4_alike 18 = .ok (.aload_n 0, 1) := by decide +kernel
theorem dX4_alike_19 : decode cX4_alike 19 = .ok (.getfield 28, 3) := by decide +kernel
theorem dX4_alike_22 : decode cX4_alike 22 = .ok (.iload_n 1, 1) := by decide +kernel
theorem dX4_alike_23 : decode cX4_alike 23 = .ok (.iaload, 1) := by decide +kernel
theorem dX4_alike_24 : decode cX4_alike 24 = .ok (.aload_n 0, 1) := by decide +kernel
theorem dX4_alike_25 : decode cX4_alike 25 = .ok (.getfield 19, 3) := by decide +kernel
theorem dX4_alike_28 : decode cX4_alike 28 = .ok (.iload_n 1, 1) := by decide +kernel
theorem dX4_alike_29 : decode cX4_alike 29 = .ok (.iaload, 1) := by decide +kernel
theorem dX4_alike_30 : decode cX4_alike 30 = .ok (.if_icmp .ne 9, 3) := by decide +kernel
theorem dX4_alike_33 : decode cX4_alike 33 = .ok (.iinc 1 1, 3) := by decide +kernel
theorem dX4_alike_36 : decode cX4_alike 36 = .ok (.goto (-34), 3) := by decide +kernel
theorem dX4_alike_39 : decode cX4_alike 39 = .ok (.iload_n 1, 1) := by decide +kernel
theorem dX4_alike_40 : decode cX4_alike 40 = .ok (.ireturn, 1) := by decide +kernel
set_option maxRecDepth 20000 in
theorem ggX4_leafBeginning_X4_layBelow : GoodIn wsX4_leafBeginning wsX4_layBelow := goodIn_r _ [8, 1, 9, 10, 11, 12, 7, 13, 45, 46, 47, 48, 49, 50, 51, 52, 53, 54, 55, 56, 57, 58, 59, 60] (by decide +kernel) (by decide +kernel)
set_option maxRecDepth 20000 in
theorem gX4_leafBeginning_X4_layBelow : GoodIn wsX4_leafBeginning (wsV RX4 166 RX4 yX4_layBelow wsX4_layBelow) := goodIn_app (goodIn_of _ (by decide +kernel)) ggX4_leafBeginning_X4_layBelow
set_option maxRecDepth 20000 in
theorem ggX4_leafBeginning_X4_layWord : GoodIn wsX4_leafBeginning wsX4_layWord := goodIn_r _ [17, 18, 1, 9, 19, 3, 10, 11, 12, 7, 13, 20, 21, 22, 23, 24, 25, 26, 27, 28, 29, 30, 31, 32, 33, 34, 35, 36, 37, 38, 39, 45, 46, 47, 48, 49, 50, 51, 52, 53, 54, 55, 56, 57, 58, 59, 60] (by decide +kernel) (by decide +kernel)
set_option maxRecDepth 20000 in
theorem gX4_leafBeginning_X4_layWord : GoodIn wsX4_leafBeginning (wsV RX4 169 RX4 yX4_layWord wsX4_layWord) := goodIn_app (goodIn_of _ (by decide +kernel)) ggX4_leafBeginning_X4_layWord
set_option maxRecDepth 20000 in
theorem ggX4_leafBeginning_X4_alike : GoodIn wsX4_leafBeginning wsX4_alike := goodIn_r _ [43, 2, 18, 19, 44, 45, 46, 47, 48, 49, 50, 51, 52, 53, 54, 55, 56, 57, 58, 59, 60] (by decide +kernel) (by decide +kernel)
set_option maxRecDepth 20000 in
theorem gX4_leafBeginning_X4_alike : GoodIn wsX4_leafBeginning (wsV RX4 172 RX4 yX4_alike wsX4_alike) := goodIn_app (goodIn_of _ (by decide +kernel)) ggX4_leafBeginning_X4_alike
theorem dX4_leafBeginning_0 : decode cX4_leafBeginning 0 = .ok (.aload_n 0, 1) := by decide +kernel
theorem dX4_leafBeginning_1 : decode cX4_leafBeginning 1 = .ok (.invokevirtual 166, 3) := by decide +kernel
theorem dX4_leafBeginning_4 : decode cX4_leafBeginning 4 = .ok (.iconst 0, 1) := by decide +kernel
theorem dX4_leafBeginning_5 : decode cX4_leafBeginning 5 = .ok (.istore_n 1, 1) := by decide +kernel
theorem dX4_leafBeginning_6 : decode cX4_leafBeginning 6 = .ok (.iload_n 1, 1) := by decide +kernel
theorem dX4_leafBeginning_7 : decode cX4_leafBeginning 7 = .ok (.aload_n 0, 1) := by decide +kernel
theorem dX4_leafBeginning_8 : decode cX4_leafBeginning 8 = .ok (.getfield 25, 3) := by decide +kernel
theorem dX4_leafBeginning_11 : decode cX4_leafBeginning 11 = .ok (.iconst 0, 1) := by decide +kernel
theorem dX4_leafBeginning_12 : decode cX4_leafBeginning 12 = .ok (.iaload, 1) := by decide +kernel
theorem dX4_leafBeginning_13 : decode cX4_leafBeginning 13 = .ok (.if_icmp .ge 30, 3) := by decide +kernel
theorem dX4_leafBeginning_16 : decode cX4_leafBeginning 16 = .ok (.aload_n 0, 1) := by decide +kernel
theorem dX4_leafBeginning_17 : decode cX4_leafBeginning 17 = .ok (.iload_n 1, 1) := by decide +kernel
theorem dX4_leafBeginning_18 : decode cX4_leafBeginning 18 = .ok (.invokevirtual 169, 3) := by decide +kernel
theorem dX4_leafBeginning_21 : decode cX4_leafBeginning 21 = .ok (.aload_n 0, 1) := by decide +kernel
theorem dX4_leafBeginning_22 : decode cX4_leafBeginning 22 = .ok (.invokevirtual 172, 3) := by decide +kernel
theorem dX4_leafBeginning_25 : decode cX4_leafBeginning 25 = .ok (.aload_n 0, 1) := by decide +kernel
theorem dX4_leafBeginning_26 : decode cX4_leafBeginning 26 = .ok (.getfield 133, 3) := by decide +kernel
theorem dX4_leafBeginning_29 : decode cX4_leafBeginning 29 = .ok (.if_icmp .ne 8, 3) := by decide +kernel
theorem dX4_leafBeginning_32 : decode cX4_leafBeginning 32 = .ok (.aload_n 0, 1) := by decide +kernel
theorem dX4_leafBeginning_33 : decode cX4_leafBeginning 33 = .ok (.getfield 163, 3) := by decide +kernel
theorem dX4_leafBeginning_36 : decode cX4_leafBeginning 36 = .ok (.ireturn, 1) := by decide +kernel
theorem dX4_leafBeginning_37 : decode cX4_leafBeginning 37 = .ok (.iinc 1 1, 3) := by decide +kernel
theorem dX4_leafBeginning_40 : decode cX4_leafBeginning 40 = .ok (.goto (-34), 3) := by decide +kernel
theorem dX4_leafBeginning_43 : decode cX4_leafBeginning 43 = .ok (.iconst (-1), 1) := by decide +kernel
theorem dX4_leafBeginning_44 : decode cX4_leafBeginning 44 = .ok (.ireturn, 1) := by decide +kernel
set_option maxRecDepth 20000 in
theorem ggX4_removeAll_X4_save : GoodIn wsX4_removeAll wsX4_save := goodIn_r _ [6, 7, 8, 9, 72, 73, 74, 75, 76, 77, 78, 79, 80, 81, 82, 83, 84, 85, 86, 87] (by decide +kernel) (by decide +kernel)
set_option maxRecDepth 20000 in
theorem gX4_removeAll_X4_save : GoodIn wsX4_removeAll (wsV RX4 151 RX4 yX4_save wsX4_save) := goodIn_app (goodIn_of _ (by decide +kernel)) ggX4_removeAll_X4_save
set_option maxRecDepth 20000 in
theorem ggX4_removeAll_X4_leafBeginning : GoodIn wsX4_removeAll wsX4_leafBeginning := goodIn_r _ [13, 14, 15, 16, 17, 18, 19, 5, 20, 9, 21, 22, 23, 24, 25, 26, 27, 28, 29, 30, 31, 32, 33, 34, 35, 36, 37, 38, 39, 40, 41, 42, 43, 44, 45, 46, 47, 48, 49, 50, 51, 52, 53, 54, 55, 72, 73, 74, 75, 76, 77, 78, 79, 80, 81, 82, 83, 84, 85, 86, 87] (by decide +kernel) (by decide +kernel)
set_option maxRecDepth 20000 in
theorem gX4_removeAll_X4_leafBeginning : GoodIn wsX4_removeAll (wsV RX4 175 RX4 yX4_leafBeginning wsX4_leafBeginning) := goodIn_app (goodIn_of _ (by decide +kernel)) ggX4_removeAll_X4_leafBeginning
set_option maxRecDepth 20000 in
theorem ggX4_removeAll_X4_removeLeaf : GoodIn wsX4_removeAll wsX4_removeLeaf := goodIn_r _ [59, 9, 60, 61, 62, 5, 63, 64, 65, 66, 67, 31, 32, 33, 34, 35, 36, 37, 38, 39, 40, 41, 42, 68, 69, 70, 71, 72, 73, 74, 75, 76, 77, 78, 79, 80, 81, 82, 83, 84, 85, 86, 87] (by decide +kernel) (by decide +kernel)
set_option maxRecDepth 20000 in
theorem gX4_removeAll_X4_removeLeaf : GoodIn wsX4_removeAll (wsV RX4 157 RX4 yX4_removeLeaf wsX4_removeLeaf) := goodIn_app (goodIn_of _ (by decide +kernel)) ggX4_removeAll_X4_removeLeaf
theorem dX4_removeAll_0 : decode cX4_removeAll 0 = .ok (.aload_n 0, 1) := by decide +kernel
theorem dX4_removeAll_1 : decode cX4_removeAll 1 = .ok (.iconst 0, 1) := by decide +kernel
theorem dX4_removeAll_2 : decode cX4_removeAll 2 = .ok (.putfield 40, 3) := by decide +kernel
theorem dX4_removeAll_5 : decode cX4_removeAll 5 = .ok (.aload_n 0, 1) := by decide +kernel
theorem dX4_removeAll_6 : decode cX4_removeAll 6 = .ok (.invokevirtual 151, 3) := by decide +kernel
theorem dX4_removeAll_9 : decode cX4_removeAll 9 = .ok (.iconst 0, 1) := by decide +kernel
theorem dX4_removeAll_10 : decode cX4_removeAll 10 = .ok (.istore_n 1, 1) := by decide +kernel
theorem dX4_removeAll_11 : decode cX4_removeAll 11 = .ok (.aload_n 0, 1) := by decide +kernel
theorem dX4_removeAll_12 : decode cX4_removeAll 12 = .ok (.invokevirtual 175, 3) := by decide +kernel
theorem dX4_removeAll_15 : decode cX4_removeAll 15 = .ok (.istore_n 2, 1) := by decide +kernel
theorem dX4_removeAll_16 : decode cX4_removeAll 16 = .ok (.iload_n 2, 1) := by decide +kernel
theorem dX4_removeAll_17 : decode cX4_removeAll 17 = .ok (.iconst (-1), 1) := by decide +kernel
theorem dX4_removeAll_18 : decode cX4_removeAll 18 = .ok (.if_icmp .eq 20, 3) := by decide +kernel
theorem dX4_removeAll_21 : decode cX4_removeAll 21 = .ok (.aload_n 0, 1) := by decide +kernel
theorem dX4_removeAll_22 : decode cX4_removeAll 22 = .ok (.iload_n 2, 1) := by decide +kernel
theorem dX4_removeAll_23 : decode cX4_removeAll 23 = .ok (.invokevirtual 157, 3) := by decide +kernel
theorem dX4_removeAll_26 : decode cX4_removeAll 26 = .ok (.pop, 1) := by decide +kernel
theorem dX4_removeAll_27 : decode cX4_removeAll 27 = .ok (.iinc 1 1, 3) := by decide +kernel
theorem dX4_removeAll_30 : decode cX4_removeAll 30 = .ok (.aload_n 0, 1) := by decide +kernel
theorem dX4_removeAll_31 : decode cX4_removeAll 31 = .ok (.invokevirtual 175, 3) := by decide +kernel
theorem dX4_removeAll_34 : decode cX4_removeAll 34 = .ok (.istore_n 2, 1) := by decide +kernel
theorem dX4_removeAll_35 : decode cX4_removeAll 35 = .ok (.goto (-19), 3) := by decide +kernel
theorem dX4_removeAll_38 : decode cX4_removeAll 38 = .ok (.iload_n 1, 1) := by decide +kernel
theorem dX4_removeAll_39 : decode cX4_removeAll 39 = .ok (.ireturn, 1) := by decide +kernel
set_option maxRecDepth 20000 in
theorem ggX4_used_X4_isUsed : GoodIn wsX4_used wsX4_isUsed := goodIn_r _ [5, 6, 7, 8, 9, 10, 11, 12, 13, 14, 15, 16, 17, 18, 19, 20, 21, 22] (by decide +kernel) (by decide +kernel)
set_option maxRecDepth 20000 in
theorem gX4_used_X4_isUsed : GoodIn wsX4_used (wsV RX4 55 RX4 yX4_isUsed wsX4_isUsed) := goodIn_app (goodIn_of _ (by decide +kernel)) ggX4_used_X4_isUsed
theorem dX4_used_0 : decode cX4_used 0 = .ok (.iconst 0, 1) := by decide +kernel
theorem dX4_used_1 : decode cX4_used 1 = .ok (.istore_n 1, 1) := by decide +kernel
theorem dX4_used_2 : decode cX4_used 2 = .ok (.iconst 0, 1) := by decide +kernel
theorem dX4_used_3 : decode cX4_used 3 = .ok (.istore_n 2, 1) := by decide +kernel
theorem dX4_used_4 : decode cX4_used 4 = .ok (.iload_n 2, 1) := by decide +kernel
theorem dX4_used_5 : decode cX4_used 5 = .ok (.sipush 160, 3) := by decide +kernel
theorem dX4_used_8 : decode cX4_used 8 = .ok (.if_icmp .ge 25, 3) := by decide +kernel
theorem dX4_used_11 : decode cX4_used 11 = .ok (.iload_n 1, 1) := by decide +kernel
theorem dX4_used_12 : decode cX4_used 12 = .ok (.aload_n 0, 1) := by decide +kernel
theorem dX4_used_13 : decode cX4_used 13 = .ok (.iload_n 2, 1) := by decide +kernel
theorem dX4_used_14 : decode cX4_used 14 = .ok (.invokevirtual 55, 3) := by decide +kernel
theorem dX4_used_17 : decode cX4_used 17 = .ok (.ifCond .eq 7, 3) := by decide +kernel
theorem dX4_used_20 : decode cX4_used 20 = .ok (.iconst 1, 1) := by decide +kernel
theorem dX4_used_21 : decode cX4_used 21 = .ok (.goto 4, 3) := by decide +kernel
theorem dX4_used_24 : decode cX4_used 24 = .ok (.iconst 0, 1) := by decide +kernel
theorem dX4_used_25 : decode cX4_used 25 = .ok (.iadd, 1) := by decide +kernel
theorem dX4_used_26 : decode cX4_used 26 = .ok (.istore_n 1, 1) := by decide +kernel
theorem dX4_used_27 : decode cX4_used 27 = .ok (.iinc 2 1, 3) := by decide +kernel
theorem dX4_used_30 : decode cX4_used 30 = .ok (.goto (-26), 3) := by decide +kernel
theorem dX4_used_33 : decode cX4_used 33 = .ok (.iload_n 1, 1) := by decide +kernel
theorem dX4_used_34 : decode cX4_used 34 = .ok (.ireturn, 1) := by decide +kernel
set_option maxRecDepth 20000 in
theorem ggX4_packIt_X4_layBelow : GoodIn wsX4_packIt wsX4_layBelow := goodIn_r _ [10, 1, 11, 12, 13, 14, 9, 15, 118, 119, 120, 121, 122, 123, 124, 125, 126, 127, 128, 129, 130, 131, 132, 133] (by decide +kernel) (by decide +kernel)
set_option maxRecDepth 20000 in
theorem gX4_packIt_X4_layBelow : GoodIn wsX4_packIt (wsV RX4 166 RX4 yX4_layBelow wsX4_layBelow) := goodIn_app (goodIn_of _ (by decide +kernel)) ggX4_packIt_X4_layBelow
set_option maxRecDepth 20000 in
theorem ggX4_packIt_X4_layWord : GoodIn wsX4_packIt wsX4_layWord := goodIn_r _ [19, 3, 1, 11, 4, 20, 12, 13, 14, 9, 15, 21, 22, 23, 24, 25, 26, 27, 28, 29, 30, 31, 32, 33, 34, 35, 36, 37, 38, 39, 40, 118, 119, 120, 121, 122, 123, 124, 125, 126, 127, 128, 129, 130, 131, 132, 133] (by decide +kernel) (by decide +kernel)
set_option maxRecDepth 20000 in
theorem gX4_packIt_X4_layWord : GoodIn wsX4_packIt (wsV RX4 169 RX4 yX4_layWord wsX4_layWord) := goodIn_app (goodIn_of _ (by decide +kernel)) ggX4_packIt_X4_layWord
set_option maxRecDepth 20000 in
theorem ggX4_packIt_X4_clearTable : GoodIn wsX4_packIt wsX4_clearTable := goodIn_r _ [44, 11, 45, 46, 47, 9, 48, 118, 119, 120, 121, 122, 123, 124, 125, 126, 127, 128, 129, 130, 131, 132, 133] (by decide +kernel) (by decide +kernel)
set_option maxRecDepth 20000 in
theorem gX4_packIt_X4_clearTable : GoodIn wsX4_packIt (wsV RX4 37 RX4 yX4_clearTable wsX4_clearTable) := goodIn_app (goodIn_of _ (by decide +kernel)) ggX4_packIt_X4_clearTable
set_option maxRecDepth 20000 in
theorem ggX4_packIt_X4_addWord : GoodIn wsX4_packIt wsX4_addWord := goodIn_r _ [52, 53, 11, 21, 22, 23, 9, 24, 25, 26, 27, 28, 29, 30, 31, 32, 54, 55, 56, 57, 58, 59, 60, 61, 62, 63, 64, 65, 66, 67, 68, 69, 70, 71, 72, 73, 74, 75, 76, 77, 78, 79, 80, 81, 82, 83, 84, 85, 86, 87, 88, 45, 46, 47, 48, 89, 90, 91, 92, 93, 94, 95, 96, 97, 98, 99, 100, 101, 102, 103, 104, 105, 106, 107, 108, 33, 34, 35, 36, 37, 38, 39, 40, 12, 13, 14, 15, 109, 110, 111, 112, 113, 114, 115, 116, 117, 118, 119, 120, 121, 122, 123, 124, 125, 126, 127, 128, 129, 130, 131, 132, 133] (by decide +kernel) (by decide +kernel)
set_option maxRecDepth 20000 in
theorem gX4_packIt_X4_addWord : GoodIn wsX4_packIt (wsV RX4 136 RX4 yX4_addWord wsX4_addWord) := goodIn_app (goodIn_of _ (by decide +kernel)) ggX4_packIt_X4_addWord
theorem dX4_packIt_0 : decode cX4_packIt 0 = .ok (.aload_n 0, 1) := by decide +kernel
theorem dX4_packIt_1 : decode cX4_packIt 1 = .ok (.invokevirtual 166, 3) := by decide +kernel
theorem dX4_packIt_4 : decode cX4_packIt 4 = .ok (.aload_n 0, 1) := by decide +kernel
theorem dX4_packIt_5 : decode cX4_packIt 5 = .ok (.getfield 25, 3) := by decide +kernel
theorem dX4_packIt_8 : decode cX4_packIt 8 = .ok (.iconst 0, 1) := by decide +kernel
theorem dX4_packIt_9 : decode cX4_packIt 9 = .ok (.iaload, 1) := by decide +kernel
theorem dX4_packIt_10 : decode cX4_packIt 10 = .ok (.istore_n 1, 1) := by decide +kernel
theorem dX4_packIt_11 : decode cX4_packIt 11 = .ok (.iconst 0, 1) := by decide +kernel
theorem dX4_packIt_12 : decode cX4_packIt 12 = .ok (.istore_n 2, 1) := by decide +kernel
theorem dX4_packIt_13 : decode cX4_packIt 13 = .ok (.iload_n 2, 1) := by decide +kernel
theorem dX4_packIt_14 : decode cX4_packIt 14 = .ok (.iload_n 1, 1) := by decide +kernel
theorem dX4_packIt_15 : decode cX4_packIt 15 = .ok (.if_icmp .ge 62, 3) := by decide +kernel
theorem dX4_packIt_18 : decode cX4_packIt 18 = .ok (.aload_n 0, 1) := by decide +kernel
theorem dX4_packIt_19 : decode cX4_packIt 19 = .ok (.iload_n 2, 1) := by decide +kernel
theorem dX4_packIt_20 : decode cX4_packIt 20 = .ok (.invokevirtual 169, 3) := by decide +kernel
theorem dX4_packIt_23 : decode cX4_packIt 23 = .ok (.aload_n 0, 1) := by decide +kernel
theorem dX4_packIt_24 : decode cX4_packIt 24 = .ok (.getfield 31, 3) := by decide +kernel
theorem dX4_packIt_27 : decode cX4_packIt 27 = .ok (.bipush 13, 2) := by decide +kernel
theorem dX4_packIt_29 : decode cX4_packIt 29 = .ok (.iload_n 2, 1) := by decide +kernel
theorem dX4_packIt_30 : decode cX4_packIt 30 = .ok (.imul, 1) := by decide +kernel
theorem dX4_packIt_31 : decode cX4_packIt 31 = .ok (.aload_n 0, 1) := by decide +kernel
theorem dX4_packIt_32 : decode cX4_packIt 32 = .ok (.getfield 160, 3) := by decide +kernel
theorem dX4_packIt_35 : decode cX4_packIt 35 = .ok (.iastore, 1) := by decide +kernel
theorem dX4_packIt_36 : decode cX4_packIt 36 = .ok (.iconst 0, 1) := by decide +kernel
theorem dX4_packIt_37 : decode cX4_packIt 37 = .ok (.istore_n 3, 1) := by decide +kernel
theorem dX4_packIt_38 : decode cX4_packIt 38 = .ok (.iload_n 3, 1) := by decide +kernel
theorem dX4_packIt_39 : decode cX4_packIt 39 = .ok (.aload_n 0, 1) := by decide +kernel
theorem dX4_packIt_40 : decode cX4_packIt 40 = .ok (.getfield 160, 3) := by decide +kernel
theorem dX4_packIt_43 : decode cX4_packIt 43 = .ok (.if_icmp .ge 28, 3) := by decide +kernel
theorem dX4_packIt_46 : decode cX4_packIt 46 = .ok (.aload_n 0, 1) := by decide +kernel
theorem dX4_packIt_47 : decode cX4_packIt 47 = .ok (.getfield 31, 3) := by decide +kernel
theorem dX4_packIt_50 : decode cX4_packIt 50 = .ok (.bipush 13, 2) := by decide +kernel
theorem dX4_packIt_52 : decode cX4_packIt 52 = .ok (.iload_n 2, 1) := by decide +kernel
theorem dX4_packIt_53 : decode cX4_packIt 53 = .ok (.imul, 1) := by decide +kernel
theorem dX4_packIt_54 : decode cX4_packIt 54 = .ok (.iconst 1, 1) := by decide +kernel
theorem dX4_packIt_55 : decode cX4_packIt 55 = .ok (.iadd, 1) := by decide +kernel
theorem dX4_packIt_56 : decode cX4_packIt 56 = .ok (.iload_n 3, 1) := by decide +kernel
theorem dX4_packIt_57 : decode cX4_packIt 57 = .ok (.iadd, 1) := by decide +kernel
theorem dX4_packIt_58 : decode cX4_packIt 58 = .ok (.aload_n 0, 1) := by decide +kernel
theorem dX4_packIt_59 : decode cX4_packIt 59 = .ok (.getfield 28, 3) := by decide +kernel
theorem dX4_packIt_62 : decode cX4_packIt 62 = .ok (.iload_n 3, 1) := by decide +kernel
theorem dX4_packIt_63 : decode cX4_packIt 63 = .ok (.iaload, 1) := by decide +kernel
theorem dX4_packIt_64 : decode cX4_packIt 64 = .ok (.iastore, 1) := by decide +kernel
theorem dX4_packIt_65 : decode cX4_packIt 65 = .ok (.iinc 3 1, 3) := by decide +kernel
theorem dX4_packIt_68 : decode cX4_packIt 68 = .ok (.goto (-30), 3) := by decide +kernel
theorem dX4_packIt_71 : decode cX4_packIt 71 = .ok (.iinc 2 1, 3) := by decide +kernel
theorem dX4_packIt_74 : decode cX4_packIt 74 = .ok (.goto (-61), 3) := by decide +kernel
theorem dX4_packIt_77 : decode cX4_packIt 77 = .ok (.aload_n 0, 1) := by decide +kernel
theorem dX4_packIt_78 : decode cX4_packIt 78 = .ok (.invokevirtual 37, 3) := by decide +kernel
theorem dX4_packIt_81 : decode cX4_packIt 81 = .ok (.iconst 1, 1) := by decide +kernel
theorem dX4_packIt_82 : decode cX4_packIt 82 = .ok (.istore_n 2, 1) := by decide +kernel
theorem dX4_packIt_83 : decode cX4_packIt 83 = .ok (.iconst 0, 1) := by decide +kernel
theorem dX4_packIt_84 : decode cX4_packIt 84 = .ok (.istore_n 3, 1) := by decide +kernel
theorem dX4_packIt_85 : decode cX4_packIt 85 = .ok (.iload_n 3, 1) := by decide +kernel
theorem dX4_packIt_86 : decode cX4_packIt 86 = .ok (.iload_n 1, 1) := by decide +kernel
theorem dX4_packIt_87 : decode cX4_packIt 87 = .ok (.if_icmp .ge 83, 3) := by decide +kernel
theorem dX4_packIt_90 : decode cX4_packIt 90 = .ok (.iload_n 2, 1) := by decide +kernel
theorem dX4_packIt_91 : decode cX4_packIt 91 = .ok (.ifCond .eq 79, 3) := by decide +kernel
theorem dX4_packIt_94 : decode cX4_packIt 94 = .ok (.iconst 0, 1) := by decide +kernel
theorem dX4_packIt_95 : decode cX4_packIt 95 = .ok (.istore 4, 2) := by decide +kernel
theorem dX4_packIt_97 : decode cX4_packIt 97 = .ok (.iload 4, 2) := by decide +kernel
theorem dX4_packIt_99 : decode cX4_packIt 99 = .ok (.aload_n 0, 1) := by decide +kernel
theorem dX4_packIt_100 : decode cX4_packIt 100 = .ok (.getfield 31, 3) := by decide +kernel
theorem dX4_packIt_103 : decode cX4_packIt 103 = .ok (.bipush 13, 2) := by decide +kernel
theorem dX4_packIt_105 : decode cX4_packIt 105 = .ok (.iload_n 3, 1) := by decide +kernel
theorem dX4_packIt_106 : decode cX4_packIt 106 = .ok (.imul, 1) := by decide +kernel
theorem dX4_packIt_107 : decode cX4_packIt 107 = .ok (.iaload, 1) := by decide +kernel
theorem dX4_packIt_108 : decode cX4_packIt 108 = .ok (.if_icmp .ge 30, 3) := by decide +kernel
theorem dX4_packIt_111 : decode cX4_packIt 111 = .ok (.aload_n 0, 1) := by decide +kernel
theorem dX4_packIt_112 : decode cX4_packIt 112 = .ok (.getfield 34, 3) := by decide +kernel
theorem dX4_packIt_115 : decode cX4_packIt 115 = .ok (.iload 4, 2) := by decide +kernel
theorem dX4_packIt_117 : decode cX4_packIt 117 = .ok (.aload_n 0, 1) := by decide +kernel
theorem dX4_packIt_118 : decode cX4_packIt 118 = .ok (.getfield 31, 3) := by decide +kernel
theorem dX4_packIt_121 : decode cX4_packIt 121 = .ok (.bipush 13, 2) := by decide +kernel
theorem dX4_packIt_123 : decode cX4_packIt 123 = .ok (.iload_n 3, 1) := by decide +kernel
theorem dX4_packIt_124 : decode cX4_packIt 124 = .ok (.imul, 1) := by decide +kernel
theorem dX4_packIt_125 : decode cX4_packIt 125 = .ok (.iconst 1, 1) := by decide +kernel
theorem dX4_packIt_126 : decode cX4_packIt 126 = .ok (.iadd, 1) := by decide +kernel
theorem dX4_packIt_127 : decode cX4_packIt 127 = .ok (.iload 4, 2) := by decide +kernel
theorem dX4_packIt_129 : decode cX4_packIt 129 = .ok (.iadd, 1) := by decide +kernel
theorem dX4_packIt_130 : decode cX4_packIt 130 = .ok (.iaload, 1) := by decide +kernel
theorem dX4_packIt_131 : decode cX4_packIt 131 = .ok (.iastore, 1) := by decide +kernel
theorem dX4_packIt_132 : decode cX4_packIt 132 = .ok (.iinc 4 1, 3) := by decide +kernel
theorem dX4_packIt_135 : decode cX4_packIt 135 = .ok (.goto (-38), 3) := by decide +kernel
theorem dX4_packIt_138 : decode cX4_packIt 138 = .ok (.aload_n 0, 1) := by decide +kernel
theorem dX4_packIt_139 : decode cX4_packIt 139 = .ok (.aload_n 0, 1) := by decide +kernel
theorem dX4_packIt_140 : decode cX4_packIt 140 = .ok (.getfield 34, 3) := by decide +kernel
theorem dX4_packIt_143 : decode cX4_packIt 143 = .ok (.aload_n 0, 1) := by decide +kernel
theorem dX4_packIt_144 : decode cX4_packIt 144 = .ok (.getfield 31, 3) := by decide +kernel
theorem dX4_packIt_147 : decode cX4_packIt 147 = .ok (.bipush 13, 2) := by decide +kernel
theorem dX4_packIt_149 : decode cX4_packIt 149 = .ok (.iload_n 3, 1) := by decide +kernel
theorem dX4_packIt_150 : decode cX4_packIt 150 = .ok (.imul, 1) := by decide +kernel
theorem dX4_packIt_151 : decode cX4_packIt 151 = .ok (.iaload, 1) := by decide +kernel
theorem dX4_packIt_152 : decode cX4_packIt 152 = .ok (.invokevirtual 136, 3) := by decide +kernel
theorem dX4_packIt_155 : decode cX4_packIt 155 = .ok (.ifCond .ne 7, 3) := by decide +kernel
theorem dX4_packIt_158 : decode cX4_packIt 158 = .ok (.iconst 1, 1) := by decide +kernel
theorem dX4_packIt_159 : decode cX4_packIt 159 = .ok (.goto 4, 3) := by decide +kernel
theorem dX4_packIt_162 : decode cX4_packIt 162 = .ok (.iconst 0, 1) := by decide +kernel
theorem dX4_packIt_163 : decode cX4_packIt 163 = .ok (.istore_n 2, 1) := by decide +kernel
theorem dX4_packIt_164 : decode cX4_packIt 164 = .ok (.iinc 3 1, 3) := by decide +kernel
theorem dX4_packIt_167 : decode cX4_packIt 167 = .ok (.goto (-82), 3) := by decide +kernel
theorem dX4_packIt_170 : decode cX4_packIt 170 = .ok (.iload_n 2, 1) := by decide +kernel
theorem dX4_packIt_171 : decode cX4_packIt 171 = .ok (.ireturn, 1) := by decide +kernel
set_option maxRecDepth 20000 in
theorem ggX4_pack_X4_used : GoodIn wsX4_pack wsX4_used := goodIn_r _ [6, 7, 8, 9, 5, 10, 11, 142, 143, 144, 145, 146, 147, 148, 149, 150, 151, 152, 153, 154, 155, 156, 157] (by decide +kernel) (by decide +kernel)
set_option maxRecDepth 20000 in
theorem gX4_pack_X4_used : GoodIn wsX4_pack (wsV RX4 178 RX4 yX4_used wsX4_used) := goodIn_app (goodIn_of _ (by decide +kernel)) ggX4_pack_X4_used
set_option maxRecDepth 20000 in
theorem ggX4_pack_X4_putAside : GoodIn wsX4_pack wsX4_putAside := goodIn_r _ [15, 16, 11, 142, 143, 144, 145, 146, 147, 148, 149, 150, 151, 152, 153, 154, 155, 156, 157] (by decide +kernel) (by decide +kernel)
set_option maxRecDepth 20000 in
theorem gX4_pack_X4_putAside : GoodIn wsX4_pack (wsV RX4 130 RX4 yX4_putAside wsX4_putAside) := goodIn_app (goodIn_of _ (by decide +kernel)) ggX4_pack_X4_putAside
set_option maxRecDepth 20000 in
theorem ggX4_pack_X4_packIt : GoodIn wsX4_pack wsX4_packIt := goodIn_r _ [20, 21, 22, 23, 24, 25, 26, 27, 28, 5, 29, 11, 30, 31, 32, 33, 34, 35, 36, 37, 38, 39, 40, 41, 42, 43, 44, 45, 46, 7, 8, 9, 10, 47, 48, 49, 50, 51, 52, 53, 54, 55, 56, 57, 58, 59, 60, 61, 62, 63, 64, 65, 66, 67, 68, 69, 70, 71, 72, 73, 74, 75, 76, 77, 78, 79, 80, 81, 82, 83, 84, 85, 86, 87, 88, 89, 90, 91, 92, 93, 94, 95, 96, 97, 98, 99, 100, 101, 102, 103, 104, 105, 106, 107, 108, 109, 110, 111, 112, 113, 114, 115, 116, 117, 118, 119, 120, 121, 122, 123, 124, 125, 126, 127, 128, 129, 130, 131, 142, 143, 144, 145, 146, 147, 148, 149, 150, 151, 152, 153, 154, 155, 156, 157] (by decide +kernel) (by decide +kernel)
set_option maxRecDepth 20000 in
theorem gX4_pack_X4_packIt : GoodIn wsX4_pack (wsV RX4 181 RX4 yX4_packIt wsX4_packIt) := goodIn_app (goodIn_of _ (by decide +kernel)) ggX4_pack_X4_packIt
set_option maxRecDepth 20000 in
theorem ggX4_pack_X4_bringBack : GoodIn wsX4_pack wsX4_bringBack := goodIn_r _ [135, 11, 16, 142, 143, 144, 145, 146, 147, 148, 149, 150, 151, 152, 153, 154, 155, 156, 157] (by decide +kernel) (by decide +kernel)
set_option maxRecDepth 20000 in
theorem gX4_pack_X4_bringBack : GoodIn wsX4_pack (wsV RX4 140 RX4 yX4_bringBack wsX4_bringBack) := goodIn_app (goodIn_of _ (by decide +kernel)) ggX4_pack_X4_bringBack
set_option maxRecDepth 20000 in
theorem ggX4_pack_X4_save : GoodIn wsX4_pack wsX4_save := goodIn_r _ [139, 140, 141, 11, 142, 143, 144, 145, 146, 147, 148, 149, 150, 151, 152, 153, 154, 155, 156, 157] (by decide +kernel) (by decide +kernel)
set_option maxRecDepth 20000 in
theorem gX4_pack_X4_save : GoodIn wsX4_pack (wsV RX4 151 RX4 yX4_save wsX4_save) := goodIn_app (goodIn_of _ (by decide +kernel)) ggX4_pack_X4_save
theorem dX4_pack_0 : decode cX4_pack 0 = .ok (.aload_n 0, 1) := by decide +kernel
theorem dX4_pack_1 : decode cX4_pack 1 = .ok (.invokevirtual 178, 3) := by decide +kernel
theorem dX4_pack_4 : decode cX4_pack 4 = .ok (.istore_n 1, 1) := by decide +kernel
theorem dX4_pack_5 : decode cX4_pack 5 = .ok (.aload_n 0, 1) := by decide +kernel
theorem dX4_pack_6 : decode cX4_pack 6 = .ok (.invokevirtual 130, 3) := by decide +kernel
theorem dX4_pack_9 : decode cX4_pack 9 = .ok (.aload_n 0, 1) := by decide +kernel
theorem dX4_pack_10 : decode cX4_pack 10 = .ok (.aload_n 0, 1) := by decide +kernel
theorem dX4_pack_11 : decode cX4_pack 11 = .ok (.invokevirtual 181, 3) := by decide +kernel
theorem dX4_pack_14 : decode cX4_pack 14 = .ok (.ifCond .eq 7, 3) := by decide +kernel
theorem dX4_pack_17 : decode cX4_pack 17 = .ok (.iconst 0, 1) := by decide +kernel
theorem dX4_pack_18 : decode cX4_pack 18 = .ok (.goto 4, 3) := by decide +kernel
theorem dX4_pack_21 : decode cX4_pack 21 = .ok (.iconst 1, 1) := by decide +kernel
theorem dX4_pack_22 : decode cX4_pack 22 = .ok (.putfield 40, 3) := by decide +kernel
theorem dX4_pack_25 : decode cX4_pack 25 = .ok (.aload_n 0, 1) := by decide +kernel
theorem dX4_pack_26 : decode cX4_pack 26 = .ok (.invokevirtual 140, 3) := by decide +kernel
theorem dX4_pack_29 : decode cX4_pack 29 = .ok (.aload_n 0, 1) := by decide +kernel
theorem dX4_pack_30 : decode cX4_pack 30 = .ok (.getfield 40, 3) := by decide +kernel
theorem dX4_pack_33 : decode cX4_pack 33 = .ok (.ifCond .le 5, 3) := by decide +kernel
theorem dX4_pack_36 : decode cX4_pack 36 = .ok (.iconst 0, 1) := by decide +kernel
theorem dX4_pack_37 : decode cX4_pack 37 = .ok (.ireturn, 1) := by decide +kernel
theorem dX4_pack_38 : decode cX4_pack 38 = .ok (.aload_n 0, 1) := by decide +kernel
theorem dX4_pack_39 : decode cX4_pack 39 = .ok (.invokevirtual 151, 3) := by decide +kernel
theorem dX4_pack_42 : decode cX4_pack 42 = .ok (.aload_n 0, 1) := by decide +kernel
theorem dX4_pack_43 : decode cX4_pack 43 = .ok (.invokevirtual 181, 3) := by decide +kernel
theorem dX4_pack_46 : decode cX4_pack 46 = .ok (.pop, 1) := by decide +kernel
theorem dX4_pack_47 : decode cX4_pack 47 = .ok (.iload_n 1, 1) := by decide +kernel
theorem dX4_pack_48 : decode cX4_pack 48 = .ok (.aload_n 0, 1) := by decide +kernel
theorem dX4_pack_49 : decode cX4_pack 49 = .ok (.invokevirtual 178, 3) := by decide +kernel
theorem dX4_pack_52 : decode cX4_pack 52 = .ok (.isub, 1) := by decide +kernel
theorem dX4_pack_53 : decode cX4_pack 53 = .ok (.sipush 1000, 3) := by decide +kernel
theorem dX4_pack_56 : decode cX4_pack 56 = .ok (.iadd, 1) := by decide +kernel
theorem dX4_pack_57 : decode cX4_pack 57 = .ok (.ireturn, 1) := by decide +kernel
set_option maxRecDepth 20000 in
theorem ggX4_toldCell_X4_offset : GoodIn wsX4_toldCell wsX4_offset := goodIn_r _ [7, 1, 31, 32, 33, 34, 35, 36, 37, 38, 39, 40, 41, 42, 43, 44, 45, 46] (by decide +kernel) (by decide +kernel)
set_option maxRecDepth 20000 in
theorem gX4_toldCell_X4_offset : GoodIn wsX4_toldCell (wsV RX4 51 RX4 yX4_offset wsX4_offset) := goodIn_app (goodIn_of _ (by decide +kernel)) ggX4_toldCell_X4_offset
set_option maxRecDepth 20000 in
theorem ggX4_toldCell_X4_lettersOf : GoodIn wsX4_toldCell wsX4_lettersOf := goodIn_r _ [11, 12, 13, 14, 6, 15, 1, 3, 4, 5, 7, 16, 17, 18, 19, 31, 32, 33, 34, 35, 36, 37, 38, 39, 40, 41, 42, 43, 44, 45, 46] (by decide +kernel) (by decide +kernel)
set_option maxRecDepth 20000 in
theorem gX4_toldCell_X4_lettersOf : GoodIn wsX4_toldCell (wsV RX4 67 RX4 yX4_lettersOf wsX4_lettersOf) := goodIn_app (goodIn_of _ (by decide +kernel)) ggX4_toldCell_X4_lettersOf
set_option maxRecDepth 20000 in
theorem ggX4_toldCell_X4_bits : GoodIn wsX4_toldCell wsX4_bits := goodIn_r _ [22] (by decide +kernel) (by decide +kernel)
set_option maxRecDepth 20000 in
theorem gX4_toldCell_X4_bits : GoodIn wsX4_toldCell (va_wsS RX4 74 yX4_bits wsX4_bits) := goodIn_app (goodIn_of _ (by decide +kernel)) ggX4_toldCell_X4_bits
set_option maxRecDepth 20000 in
theorem ggX4_toldCell_X4_layBelow : GoodIn wsX4_toldCell wsX4_layBelow := goodIn_r _ [26, 2, 1, 27, 28, 29, 6, 30, 31, 32, 33, 34, 35, 36, 37, 38, 39, 40, 41, 42, 43, 44, 45, 46] (by decide +kernel) (by decide +kernel)
set_option maxRecDepth 20000 in
theorem gX4_toldCell_X4_layBelow : GoodIn wsX4_toldCell (wsV RX4 166 RX4 yX4_layBelow wsX4_layBelow) := goodIn_app (goodIn_of _ (by decide +kernel)) ggX4_toldCell_X4_layBelow
theorem dX4_toldCell_0 : decode cX4_toldCell 0 = .ok (.iload_n 2, 1) := by decide +kernel
theorem dX4_toldCell_1 : decode cX4_toldCell 1 = .ok (.tableswitch 96 0 5 #[39, 48, 59, 70, 76, 87], 39) := by decide +kernel
theorem dX4_toldCell_40 : decode cX4_toldCell 40 = .ok (.aload_n 0, 1) := by decide +kernel
theorem dX4_toldCell_41 : decode cX4_toldCell 41 = .ok (.getfield 7, 3) := by decide +kernel
theorem dX4_toldCell_44 : decode cX4_toldCell 44 = .ok (.iconst 0, 1) := by decide +kernel
theorem dX4_toldCell_45 : decode cX4_toldCell 45 = .ok (.iload_n 1, 1) := by decide +kernel
theorem dX4_toldCell_46 : decode cX4_toldCell 46 = .ok (.iadd, 1) := by decide +kernel
theorem dX4_toldCell_47 : decode cX4_toldCell 47 = .ok (.iaload, 1) := by decide +kernel
theorem dX4_toldCell_48 : decode cX4_toldCell 48 = .ok (.ireturn, 1) := by decide +kernel
theorem dX4_toldCell_49 : decode cX4_toldCell 49 = .ok (.aload_n 0, 1) := by decide +kernel
theorem dX4_toldCell_50 : decode cX4_toldCell 50 = .ok (.getfield 7, 3) := by decide +kernel
theorem dX4_toldCell_53 : decode cX4_toldCell 53 = .ok (.sipush 160, 3) := by decide +kernel
theorem dX4_toldCell_56 : decode cX4_toldCell 56 = .ok (.iload_n 1, 1) := by decide +kernel
theorem dX4_toldCell_57 : decode cX4_toldCell 57 = .ok (.iadd, 1) := by decide +kernel
theorem dX4_toldCell_58 : decode cX4_toldCell 58 = .ok (.iaload, 1) := by decide +kernel
theorem dX4_toldCell_59 : decode cX4_toldCell 59 = .ok (.ireturn, 1) := by decide +kernel
theorem dX4_toldCell_60 : decode cX4_toldCell 60 = .ok (.aload_n 0, 1) := by decide +kernel
theorem dX4_toldCell_61 : decode cX4_toldCell 61 = .ok (.getfield 7, 3) := by decide +kernel
theorem dX4_toldCell_64 : decode cX4_toldCell 64 = .ok (.sipush 320, 3) := by decide +kernel
theorem dX4_toldCell_67 : decode cX4_toldCell 67 = .ok (.iload_n 1, 1) := by decide +kernel
theorem dX4_toldCell_68 : decode cX4_toldCell 68 = .ok (.iadd, 1) := by decide +kernel
theorem dX4_toldCell_69 : decode cX4_toldCell 69 = .ok (.iaload, 1) := by decide +kernel
theorem dX4_toldCell_70 : decode cX4_toldCell 70 = .ok (.ireturn, 1) := by decide +kernel
theorem dX4_toldCell_71 : decode cX4_toldCell 71 = .ok (.aload_n 0, 1) := by decide +kernel
theorem dX4_toldCell_72 : decode cX4_toldCell 72 = .ok (.iload_n 1, 1) := by decide +kernel
theorem dX4_toldCell_73 : decode cX4_toldCell 73 = .ok (.invokevirtual 51, 3) := by decide +kernel
theorem dX4_toldCell_76 : decode cX4_toldCell 76 = .ok (.ireturn, 1) := by decide +kernel
theorem dX4_toldCell_77 : decode cX4_toldCell 77 = .ok (.aload_n 0, 1) := by decide +kernel
theorem dX4_toldCell_78 : decode cX4_toldCell 78 = .ok (.getfield 7, 3) := by decide +kernel
theorem dX4_toldCell_81 : decode cX4_toldCell 81 = .ok (.sipush 640, 3) := by decide +kernel
theorem dX4_toldCell_84 : decode cX4_toldCell 84 = .ok (.iload_n 1, 1) := by decide +kernel
theorem dX4_toldCell_85 : decode cX4_toldCell 85 = .ok (.iadd, 1) := by decide +kernel
theorem dX4_toldCell_86 : decode cX4_toldCell 86 = .ok (.iaload, 1) := by decide +kernel
theorem dX4_toldCell_87 : decode cX4_toldCell 87 = .ok (.ireturn, 1) := by decide +kernel
theorem dX4_toldCell_88 : decode cX4_toldCell 88 = .ok (.aload_n 0, 1) := by decide +kernel
theorem dX4_toldCell_89 : decode cX4_toldCell 89 = .ok (.iload_n 1, 1) := by decide +kernel
theorem dX4_toldCell_90 : decode cX4_toldCell 90 = .ok (.invokevirtual 67, 3) := by decide +kernel
theorem dX4_toldCell_93 : decode cX4_toldCell 93 = .ok (.invokestatic 74, 3) := by decide +kernel
theorem dX4_toldCell_96 : decode cX4_toldCell 96 = .ok (.ireturn, 1) := by decide +kernel
theorem dX4_toldCell_97 : decode cX4_toldCell 97 = .ok (.aload_n 0, 1) := by decide +kernel
theorem dX4_toldCell_98 : decode cX4_toldCell 98 = .ok (.invokevirtual 166, 3) := by decide +kernel
theorem dX4_toldCell_101 : decode cX4_toldCell 101 = .ok (.aload_n 0, 1) := by decide +kernel
theorem dX4_toldCell_102 : decode cX4_toldCell 102 = .ok (.getfield 25, 3) := by decide +kernel
theorem dX4_toldCell_105 : decode cX4_toldCell 105 = .ok (.iload_n 1, 1) := by decide +kernel
theorem dX4_toldCell_106 : decode cX4_toldCell 106 = .ok (.iaload, 1) := by decide +kernel
theorem dX4_toldCell_107 : decode cX4_toldCell 107 = .ok (.ireturn, 1) := by decide +kernel
set_option maxRecDepth 20000 in
theorem ggX4_cell_X4_in : GoodIn wsX4_cell wsX4_in := goodIn_r _ [5] (by decide +kernel) (by decide +kernel)
set_option maxRecDepth 20000 in
theorem gX4_cell_X4_in : GoodIn wsX4_cell (va_wsS RX4 143 yX4_in wsX4_in) := goodIn_app (goodIn_of _ (by decide +kernel)) ggX4_cell_X4_in
set_option maxRecDepth 20000 in
theorem ggX4_cell_X4_toldCell : GoodIn wsX4_cell wsX4_toldCell := goodIn_r _ [9, 10, 11, 12, 13, 14, 4, 15, 16, 17, 18, 19, 20, 21, 22, 23, 24, 25, 26, 27, 28, 29, 30, 31, 32, 33, 34, 35, 36, 37, 38, 39, 40, 41, 42, 43, 44, 45, 46, 47, 48, 49, 50, 51, 52, 53, 54] (by decide +kernel) (by decide +kernel)
set_option maxRecDepth 20000 in
theorem gX4_cell_X4_toldCell : GoodIn wsX4_cell (wsV RX4 185 RX4 yX4_toldCell wsX4_toldCell) := goodIn_app (goodIn_of _ (by decide +kernel)) ggX4_cell_X4_toldCell
theorem dX4_cell_0 : decode cX4_cell 0 = .ok (.aload_n 0, 1) := by decide +kernel
theorem dX4_cell_1 : decode cX4_cell 1 = .ok (.iload_n 1, 1) := by decide +kernel
theorem dX4_cell_2 : decode cX4_cell 2 = .ok (.iconst 0, 1) := by decide +kernel
theorem dX4_cell_3 : decode cX4_cell 3 = .ok (.sipush 159, 3) := by decide +kernel
theorem dX4_cell_6 : decode cX4_cell 6 = .ok (.invokestatic 143, 3) := by decide +kernel
theorem dX4_cell_9 : decode cX4_cell 9 = .ok (.ifCond .ne 7, 3) := by decide +kernel
theorem dX4_cell_12 : decode cX4_cell 12 = .ok (.iconst 1, 1) := by decide +kernel
theorem dX4_cell_13 : decode cX4_cell 13 = .ok (.goto 18, 3) := by decide +kernel
theorem dX4_cell_16 : decode cX4_cell 16 = .ok (.iload_n 2, 1) := by decide +kernel
theorem dX4_cell_17 : decode cX4_cell 17 = .ok (.iconst 0, 1) := by decide +kernel
theorem dX4_cell_18 : decode cX4_cell 18 = .ok (.bipush 6, 2) := by decide +kernel
theorem dX4_cell_20 : decode cX4_cell 20 = .ok (.invokestatic 143, 3) := by decide +kernel
theorem dX4_cell_23 : decode cX4_cell 23 = .ok (.ifCond .eq 7, 3) := by decide +kernel
theorem dX4_cell_26 : decode cX4_cell 26 = .ok (.iconst 0, 1) := by decide +kernel
theorem dX4_cell_27 : decode cX4_cell 27 = .ok (.goto 4, 3) := by decide +kernel
theorem dX4_cell_30 : decode cX4_cell 30 = .ok (.iconst 2, 1) := by decide +kernel
theorem dX4_cell_31 : decode cX4_cell 31 = .ok (.putfield 40, 3) := by decide +kernel
theorem dX4_cell_34 : decode cX4_cell 34 = .ok (.aload_n 0, 1) := by decide +kernel
theorem dX4_cell_35 : decode cX4_cell 35 = .ok (.getfield 40, 3) := by decide +kernel
theorem dX4_cell_38 : decode cX4_cell 38 = .ok (.ifCond .le 7, 3) := by decide +kernel
theorem dX4_cell_41 : decode cX4_cell 41 = .ok (.iconst 0, 1) := by decide +kernel
theorem dX4_cell_42 : decode cX4_cell 42 = .ok (.goto 9, 3) := by decide +kernel
theorem dX4_cell_45 : decode cX4_cell 45 = .ok (.aload_n 0, 1) := by decide +kernel
theorem dX4_cell_46 : decode cX4_cell 46 = .ok (.iload_n 1, 1) := by decide +kernel
theorem dX4_cell_47 : decode cX4_cell 47 = .ok (.iload_n 2, 1) := by decide +kernel
theorem dX4_cell_48 : decode cX4_cell 48 = .ok (.invokevirtual 185, 3) := by decide +kernel
theorem dX4_cell_51 : decode cX4_cell 51 = .ok (.ireturn, 1) := by decide +kernel
set_option maxRecDepth 20000 in
theorem ggX4_toldEnd_X4_usersOf : GoodIn wsX4_toldEnd wsX4_usersOf := goodIn_r _ [5, 6, 11, 12, 13, 14, 15, 16, 17, 18, 19, 20, 21, 22, 23, 24, 25, 26] (by decide +kernel) (by decide +kernel)
set_option maxRecDepth 20000 in
theorem gX4_toldEnd_X4_usersOf : GoodIn wsX4_toldEnd (wsV RX4 83 RX4 yX4_usersOf wsX4_usersOf) := goodIn_app (goodIn_of _ (by decide +kernel)) ggX4_toldEnd_X4_usersOf
set_option maxRecDepth 20000 in
theorem ggX4_toldEnd_X4_lengthOf : GoodIn wsX4_toldEnd wsX4_lengthOf := goodIn_r _ [10, 6, 11, 12, 13, 14, 15, 16, 17, 18, 19, 20, 21, 22, 23, 24, 25, 26] (by decide +kernel) (by decide +kernel)
set_option maxRecDepth 20000 in
theorem gX4_toldEnd_X4_lengthOf : GoodIn wsX4_toldEnd (wsV RX4 86 RX4 yX4_lengthOf wsX4_lengthOf) := goodIn_app (goodIn_of _ (by decide +kernel)) ggX4_toldEnd_X4_lengthOf
theorem dX4_toldEnd_0 : decode cX4_toldEnd 0 = .ok (.iload_n 2, 1) := by decide +kernel
theorem dX4_toldEnd_1 : decode cX4_toldEnd 1 = .ok (.ifCond .ne 11, 3) := by decide +kernel
theorem dX4_toldEnd_4 : decode cX4_toldEnd 4 = .ok (.aload_n 0, 1) := by decide +kernel
theorem dX4_toldEnd_5 : decode cX4_toldEnd 5 = .ok (.iload_n 1, 1) := by decide +kernel
theorem dX4_toldEnd_6 : decode cX4_toldEnd 6 = .ok (.invokevirtual 83, 3) := by decide +kernel
theorem dX4_toldEnd_9 : decode cX4_toldEnd 9 = .ok (.goto 20, 3) := by decide +kernel
theorem dX4_toldEnd_12 : decode cX4_toldEnd 12 = .ok (.aload_n 0, 1) := by decide +kernel
theorem dX4_toldEnd_13 : decode cX4_toldEnd 13 = .ok (.iload_n 1, 1) := by decide +kernel
theorem dX4_toldEnd_14 : decode cX4_toldEnd 14 = .ok (.invokevirtual 83, 3) := by decide +kernel
theorem dX4_toldEnd_17 : decode cX4_toldEnd 17 = .ok (.ifCond .ne 7, 3) := by decide +kernel
theorem dX4_toldEnd_20 : decode cX4_toldEnd 20 = .ok (.iconst (-1), 1) := by decide +kernel
theorem dX4_toldEnd_21 : decode cX4_toldEnd 21 = .ok (.goto 8, 3) := by decide +kernel
theorem dX4_toldEnd_24 : decode cX4_toldEnd 24 = .ok (.aload_n 0, 1) := by decide +kernel
theorem dX4_toldEnd_25 : decode cX4_toldEnd 25 = .ok (.iload_n 1, 1) := by decide +kernel
theorem dX4_toldEnd_26 : decode cX4_toldEnd 26 = .ok (.invokevirtual 86, 3) := by decide +kernel
theorem dX4_toldEnd_29 : decode cX4_toldEnd 29 = .ok (.ireturn, 1) := by decide +kernel
set_option maxRecDepth 20000 in
theorem ggX4_end_X4_in : GoodIn wsX4_end wsX4_in := goodIn_r _ [5] (by decide +kernel) (by decide +kernel)
set_option maxRecDepth 20000 in
theorem gX4_end_X4_in : GoodIn wsX4_end (va_wsS RX4 143 yX4_in wsX4_in) := goodIn_app (goodIn_of _ (by decide +kernel)) ggX4_end_X4_in
set_option maxRecDepth 20000 in
theorem ggX4_end_X4_toldEnd : GoodIn wsX4_end wsX4_toldEnd := goodIn_r _ [9, 10, 11, 12, 4, 13, 14, 15, 16, 17, 18, 19, 20, 21, 22, 23, 24, 25, 26, 27, 28, 29, 30, 31, 32, 33, 34] (by decide +kernel) (by decide +kernel)
set_option maxRecDepth 20000 in
theorem gX4_end_X4_toldEnd : GoodIn wsX4_end (wsV RX4 188 RX4 yX4_toldEnd wsX4_toldEnd) := goodIn_app (goodIn_of _ (by decide +kernel)) ggX4_end_X4_toldEnd
theorem dX4_end_0 : decode cX4_end 0 = .ok (.aload_n 0, 1) := by decide +kernel
theorem dX4_end_1 : decode cX4_end 1 = .ok (.iload_n 1, 1) := by decide +kernel
theorem dX4_end_2 : decode cX4_end 2 = .ok (.iconst 0, 1) := by decide +kernel
theorem dX4_end_3 : decode cX4_end 3 = .ok (.bipush 39, 2) := by decide +kernel
theorem dX4_end_5 : decode cX4_end 5 = .ok (.invokestatic 143, 3) := by decide +kernel
theorem dX4_end_8 : decode cX4_end 8 = .ok (.ifCond .ne 7, 3) := by decide +kernel
theorem dX4_end_11 : decode cX4_end 11 = .ok (.iconst 1, 1) := by decide +kernel
theorem dX4_end_12 : decode cX4_end 12 = .ok (.goto 17, 3) := by decide +kernel
theorem dX4_end_15 : decode cX4_end 15 = .ok (.iload_n 2, 1) := by decide +kernel
theorem dX4_end_16 : decode cX4_end 16 = .ok (.iconst 0, 1) := by decide +kernel
theorem dX4_end_17 : decode cX4_end 17 = .ok (.iconst 1, 1) := by decide +kernel
theorem dX4_end_18 : decode cX4_end 18 = .ok (.invokestatic 143, 3) := by decide +kernel
theorem dX4_end_21 : decode cX4_end 21 = .ok (.ifCond .eq 7, 3) := by decide +kernel
theorem dX4_end_24 : decode cX4_end 24 = .ok (.iconst 0, 1) := by decide +kernel
theorem dX4_end_25 : decode cX4_end 25 = .ok (.goto 4, 3) := by decide +kernel
theorem dX4_end_28 : decode cX4_end 28 = .ok (.iconst 2, 1) := by decide +kernel
theorem dX4_end_29 : decode cX4_end 29 = .ok (.putfield 40, 3) := by decide +kernel
theorem dX4_end_32 : decode cX4_end 32 = .ok (.aload_n 0, 1) := by decide +kernel
theorem dX4_end_33 : decode cX4_end 33 = .ok (.getfield 40, 3) := by decide +kernel
theorem dX4_end_36 : decode cX4_end 36 = .ok (.ifCond .le 7, 3) := by decide +kernel
theorem dX4_end_39 : decode cX4_end 39 = .ok (.iconst 0, 1) := by decide +kernel
theorem dX4_end_40 : decode cX4_end 40 = .ok (.goto 9, 3) := by decide +kernel
theorem dX4_end_43 : decode cX4_end 43 = .ok (.aload_n 0, 1) := by decide +kernel
theorem dX4_end_44 : decode cX4_end 44 = .ok (.iload_n 1, 1) := by decide +kernel
theorem dX4_end_45 : decode cX4_end 45 = .ok (.iload_n 2, 1) := by decide +kernel
theorem dX4_end_46 : decode cX4_end 46 = .ok (.invokevirtual 188, 3) := by decide +kernel
theorem dX4_end_49 : decode cX4_end 49 = .ok (.ireturn, 1) := by decide +kernel
set_option maxRecDepth 20000 in
theorem ggX4_letter_X4_in : GoodIn wsX4_letter wsX4_in := goodIn_r _ [5] (by decide +kernel) (by decide +kernel)
set_option maxRecDepth 20000 in
theorem gX4_letter_X4_in : GoodIn wsX4_letter (va_wsS RX4 143 yX4_in wsX4_in) := goodIn_app (goodIn_of _ (by decide +kernel)) ggX4_letter_X4_in
set_option maxRecDepth 20000 in
theorem ggX4_letter_X4_usersOf : GoodIn wsX4_letter wsX4_usersOf := goodIn_r _ [9, 10, 19, 20, 21, 22, 23, 24, 25, 26, 27, 28, 29, 30, 31, 32, 33, 34] (by decide +kernel) (by decide +kernel)
set_option maxRecDepth 20000 in
theorem gX4_letter_X4_usersOf : GoodIn wsX4_letter (wsV RX4 83 RX4 yX4_usersOf wsX4_usersOf) := goodIn_app (goodIn_of _ (by decide +kernel)) ggX4_letter_X4_usersOf
set_option maxRecDepth 20000 in
theorem ggX4_letter_X4_lengthOf : GoodIn wsX4_letter wsX4_lengthOf := goodIn_r _ [14, 10, 19, 20, 21, 22, 23, 24, 25, 26, 27, 28, 29, 30, 31, 32, 33, 34] (by decide +kernel) (by decide +kernel)
set_option maxRecDepth 20000 in
theorem gX4_letter_X4_lengthOf : GoodIn wsX4_letter (wsV RX4 86 RX4 yX4_lengthOf wsX4_lengthOf) := goodIn_app (goodIn_of _ (by decide +kernel)) ggX4_letter_X4_lengthOf
set_option maxRecDepth 20000 in
theorem ggX4_letter_X4_letterOf : GoodIn wsX4_letter wsX4_letterOf := goodIn_r _ [18, 10, 19, 20, 21, 22, 23, 24, 25, 26, 27, 28, 29, 30, 31, 32, 33, 34] (by decide +kernel) (by decide +kernel)
set_option maxRecDepth 20000 in
theorem gX4_letter_X4_letterOf : GoodIn wsX4_letter (wsV RX4 89 RX4 yX4_letterOf wsX4_letterOf) := goodIn_app (goodIn_of _ (by decide +kernel)) ggX4_letter_X4_letterOf
theorem dX4_letter_0 : decode cX4_letter 0 = .ok (.aload_n 0, 1) := by decide +kernel
theorem dX4_letter_1 : decode cX4_letter 1 = .ok (.iload_n 1, 1) := by decide +kernel
theorem dX4_letter_2 : decode cX4_letter 2 = .ok (.iconst 0, 1) := by decide +kernel
theorem dX4_letter_3 : decode cX4_letter 3 = .ok (.bipush 39, 2) := by decide +kernel
theorem dX4_letter_5 : decode cX4_letter 5 = .ok (.invokestatic 143, 3) := by decide +kernel
theorem dX4_letter_8 : decode cX4_letter 8 = .ok (.ifCond .ne 7, 3) := by decide +kernel
theorem dX4_letter_11 : decode cX4_letter 11 = .ok (.iconst 1, 1) := by decide +kernel
theorem dX4_letter_12 : decode cX4_letter 12 = .ok (.goto 18, 3) := by decide +kernel
theorem dX4_letter_15 : decode cX4_letter 15 = .ok (.iload_n 2, 1) := by decide +kernel
theorem dX4_letter_16 : decode cX4_letter 16 = .ok (.iconst 0, 1) := by decide +kernel
theorem dX4_letter_17 : decode cX4_letter 17 = .ok (.bipush 11, 2) := by decide +kernel
theorem dX4_letter_19 : decode cX4_letter 19 = .ok (.invokestatic 143, 3) := by decide +kernel
theorem dX4_letter_22 : decode cX4_letter 22 = .ok (.ifCond .eq 7, 3) := by decide +kernel
theorem dX4_letter_25 : decode cX4_letter 25 = .ok (.iconst 0, 1) := by decide +kernel
theorem dX4_letter_26 : decode cX4_letter 26 = .ok (.goto 4, 3) := by decide +kernel
theorem dX4_letter_29 : decode cX4_letter 29 = .ok (.iconst 2, 1) := by decide +kernel
theorem dX4_letter_30 : decode cX4_letter 30 = .ok (.putfield 40, 3) := by decide +kernel
theorem dX4_letter_33 : decode cX4_letter 33 = .ok (.aload_n 0, 1) := by decide +kernel
theorem dX4_letter_34 : decode cX4_letter 34 = .ok (.getfield 40, 3) := by decide +kernel
theorem dX4_letter_37 : decode cX4_letter 37 = .ok (.ifCond .le 5, 3) := by decide +kernel
theorem dX4_letter_40 : decode cX4_letter 40 = .ok (.iconst 0, 1) := by decide +kernel
theorem dX4_letter_41 : decode cX4_letter 41 = .ok (.ireturn, 1) := by decide +kernel
theorem dX4_letter_42 : decode cX4_letter 42 = .ok (.aload_n 0, 1) := by decide +kernel
theorem dX4_letter_43 : decode cX4_letter 43 = .ok (.iload_n 1, 1) := by decide +kernel
theorem dX4_letter_44 : decode cX4_letter 44 = .ok (.invokevirtual 83, 3) := by decide +kernel
theorem dX4_letter_47 : decode cX4_letter 47 = .ok (.ifCond .le 21, 3) := by decide +kernel
theorem dX4_letter_50 : decode cX4_letter 50 = .ok (.iload_n 2, 1) := by decide +kernel
theorem dX4_letter_51 : decode cX4_letter 51 = .ok (.aload_n 0, 1) := by decide +kernel
theorem dX4_letter_52 : decode cX4_letter 52 = .ok (.iload_n 1, 1) := by decide +kernel
theorem dX4_letter_53 : decode cX4_letter 53 = .ok (.invokevirtual 86, 3) := by decide +kernel
theorem dX4_letter_56 : decode cX4_letter 56 = .ok (.if_icmp .ge 12, 3) := by decide +kernel
theorem dX4_letter_59 : decode cX4_letter 59 = .ok (.aload_n 0, 1) := by decide +kernel
theorem dX4_letter_60 : decode cX4_letter 60 = .ok (.iload_n 1, 1) := by decide +kernel
theorem dX4_letter_61 : decode cX4_letter 61 = .ok (.iload_n 2, 1) := by decide +kernel
theorem dX4_letter_62 : decode cX4_letter 62 = .ok (.invokevirtual 89, 3) := by decide +kernel
theorem dX4_letter_65 : decode cX4_letter 65 = .ok (.goto 4, 3) := by decide +kernel
theorem dX4_letter_68 : decode cX4_letter 68 = .ok (.iconst (-1), 1) := by decide +kernel
theorem dX4_letter_69 : decode cX4_letter 69 = .ok (.ireturn, 1) := by decide +kernel
theorem dX4_cellsOf_0 : decode cX4_cellsOf 0 = .ok (.iconst 0, 1) := by decide +kernel
theorem dX4_cellsOf_1 : decode cX4_cellsOf 1 = .ok (.istore_n 2, 1) := by decide +kernel
theorem dX4_cellsOf_2 : decode cX4_cellsOf 2 = .ok (.iconst 0, 1) := by decide +kernel
theorem dX4_cellsOf_3 : decode cX4_cellsOf 3 = .ok (.istore_n 3, 1) := by decide +kernel
theorem dX4_cellsOf_4 : decode cX4_cellsOf 4 = .ok (.iload_n 3, 1) := by decide +kernel
theorem dX4_cellsOf_5 : decode cX4_cellsOf 5 = .ok (.sipush 160, 3) := by decide +kernel
theorem dX4_cellsOf_8 : decode cX4_cellsOf 8 = .ok (.if_icmp .ge 29, 3) := by decide +kernel
theorem dX4_cellsOf_11 : decode cX4_cellsOf 11 = .ok (.iload_n 2, 1) := by decide +kernel
theorem dX4_cellsOf_12 : decode cX4_cellsOf 12 = .ok (.aload_n 0, 1) := by decide +kernel
theorem dX4_cellsOf_13 : decode cX4_cellsOf 13 = .ok (.getfield 7, 3) := by decide +kernel
theorem dX4_cellsOf_16 : decode cX4_cellsOf 16 = .ok (.iconst 0, 1) := by decide +kernel
theorem dX4_cellsOf_17 : decode cX4_cellsOf 17 = .ok (.iload_n 3, 1) := by decide +kernel
theorem dX4_cellsOf_18 : decode cX4_cellsOf 18 = .ok (.iadd, 1) := by decide +kernel
theorem dX4_cellsOf_19 : decode cX4_cellsOf 19 = .ok (.iaload, 1) := by decide +kernel
theorem dX4_cellsOf_20 : decode cX4_cellsOf 20 = .ok (.iload_n 1, 1) := by decide +kernel
theorem dX4_cellsOf_21 : decode cX4_cellsOf 21 = .ok (.if_icmp .ne 7, 3) := by decide +kernel
theorem dX4_cellsOf_24 : decode cX4_cellsOf 24 = .ok (.iconst 1, 1) := by decide +kernel
theorem dX4_cellsOf_25 : decode cX4_cellsOf 25 = .ok (.goto 4, 3) := by decide +kernel
theorem dX4_cellsOf_28 : decode cX4_cellsOf 28 = .ok (.iconst 0, 1) := by decide +kernel
theorem dX4_cellsOf_29 : decode cX4_cellsOf 29 = .ok (.iadd, 1) := by decide +kernel
theorem dX4_cellsOf_30 : decode cX4_cellsOf 30 = .ok (.istore_n 2, 1) := by decide +kernel
theorem dX4_cellsOf_31 : decode cX4_cellsOf 31 = .ok (.iinc 3 1, 3) := by decide +kernel
theorem dX4_cellsOf_34 : decode cX4_cellsOf 34 = .ok (.goto (-30), 3) := by decide +kernel
theorem dX4_cellsOf_37 : decode cX4_cellsOf 37 = .ok (.iload_n 2, 1) := by decide +kernel
theorem dX4_cellsOf_38 : decode cX4_cellsOf 38 = .ok (.ireturn, 1) := by decide +kernel
set_option maxRecDepth 20000 in
theorem ggX4_ends_X4_usersOf : GoodIn wsX4_ends wsX4_usersOf := goodIn_r _ [5, 6, 7, 8, 9, 10, 11, 12, 13, 14, 15, 16, 17, 18, 19, 20, 21, 22] (by decide +kernel) (by decide +kernel)
set_option maxRecDepth 20000 in
theorem gX4_ends_X4_usersOf : GoodIn wsX4_ends (wsV RX4 83 RX4 yX4_usersOf wsX4_usersOf) := goodIn_app (goodIn_of _ (by decide +kernel)) ggX4_ends_X4_usersOf
theorem dX4_ends_0 : decode cX4_ends 0 = .ok (.iconst 0, 1) := by decide +kernel
theorem dX4_ends_1 : decode cX4_ends 1 = .ok (.istore_n 1, 1) := by decide +kernel
theorem dX4_ends_2 : decode cX4_ends 2 = .ok (.iconst 0, 1) := by decide +kernel
theorem dX4_ends_3 : decode cX4_ends 3 = .ok (.istore_n 2, 1) := by decide +kernel
theorem dX4_ends_4 : decode cX4_ends 4 = .ok (.iload_n 2, 1) := by decide +kernel
theorem dX4_ends_5 : decode cX4_ends 5 = .ok (.bipush 40, 2) := by decide +kernel
theorem dX4_ends_7 : decode cX4_ends 7 = .ok (.if_icmp .ge 25, 3) := by decide +kernel
theorem dX4_ends_10 : decode cX4_ends 10 = .ok (.iload_n 1, 1) := by decide +kernel
theorem dX4_ends_11 : decode cX4_ends 11 = .ok (.aload_n 0, 1) := by decide +kernel
theorem dX4_ends_12 : decode cX4_ends 12 = .ok (.iload_n 2, 1) := by decide +kernel
theorem dX4_ends_13 : decode cX4_ends 13 = .ok (.invokevirtual 83, 3) := by decide +kernel
theorem dX4_ends_16 : decode cX4_ends 16 = .ok (.ifCond .le 7, 3) := by decide +kernel
theorem dX4_ends_19 : decode cX4_ends 19 = .ok (.iconst 1, 1) := by decide +kernel
theorem dX4_ends_20 : decode cX4_ends 20 = .ok (.goto 4, 3) := by decide +kernel
theorem dX4_ends_23 : decode cX4_ends 23 = .ok (.iconst 0, 1) := by decide +kernel
theorem dX4_ends_24 : decode cX4_ends 24 = .ok (.iadd, 1) := by decide +kernel
theorem dX4_ends_25 : decode cX4_ends 25 = .ok (.istore_n 1, 1) := by decide +kernel
theorem dX4_ends_26 : decode cX4_ends 26 = .ok (.iinc 2 1, 3) := by decide +kernel
theorem dX4_ends_29 : decode cX4_ends 29 = .ok (.goto (-25), 3) := by decide +kernel
theorem dX4_ends_32 : decode cX4_ends 32 = .ok (.iload_n 1, 1) := by decide +kernel
theorem dX4_ends_33 : decode cX4_ends 33 = .ok (.ireturn, 1) := by decide +kernel
set_option maxRecDepth 20000 in
theorem ggX4_lettersOfEnds_X4_usersOf : GoodIn wsX4_lettersOfEnds wsX4_usersOf := goodIn_r _ [5, 6, 11, 12, 13, 14, 15, 16, 17, 18, 19, 20, 21, 22, 23, 24, 25, 26] (by decide +kernel) (by decide +kernel)
set_option maxRecDepth 20000 in
theorem gX4_lettersOfEnds_X4_usersOf : GoodIn wsX4_lettersOfEnds (wsV RX4 83 RX4 yX4_usersOf wsX4_usersOf) := goodIn_app (goodIn_of _ (by decide +kernel)) ggX4_lettersOfEnds_X4_usersOf
set_option maxRecDepth 20000 in
theorem ggX4_lettersOfEnds_X4_lengthOf : GoodIn wsX4_lettersOfEnds wsX4_lengthOf := goodIn_r _ [10, 6, 11, 12, 13, 14, 15, 16, 17, 18, 19, 20, 21, 22, 23, 24, 25, 26] (by decide +kernel) (by decide +kernel)
set_option maxRecDepth 20000 in
theorem gX4_lettersOfEnds_X4_lengthOf : GoodIn wsX4_lettersOfEnds (wsV RX4 86 RX4 yX4_lengthOf wsX4_lengthOf) := goodIn_app (goodIn_of _ (by decide +kernel)) ggX4_lettersOfEnds_X4_lengthOf
theorem dX4_lettersOfEnds_0 : decode cX4_lettersOfEnds 0 = .ok (.iconst 0, 1) := by decide +kernel
theorem dX4_lettersOfEnds_1 : decode cX4_lettersOfEnds 1 = .ok (.istore_n 1, 1) := by decide +kernel
theorem dX4_lettersOfEnds_2 : decode cX4_lettersOfEnds 2 = .ok (.iconst 0, 1) := by decide +kernel
theorem dX4_lettersOfEnds_3 : decode cX4_lettersOfEnds 3 = .ok (.istore_n 2, 1) := by decide +kernel
theorem dX4_lettersOfEnds_4 : decode cX4_lettersOfEnds 4 = .ok (.iload_n 2, 1) := by decide +kernel
theorem dX4_lettersOfEnds_5 : decode cX4_lettersOfEnds 5 = .ok (.bipush 40, 2) := by decide +kernel
theorem dX4_lettersOfEnds_7 : decode cX4_lettersOfEnds 7 = .ok (.if_icmp .ge 29, 3) := by decide +kernel
theorem dX4_lettersOfEnds_10 : decode cX4_lettersOfEnds 10 = .ok (.iload_n 1, 1) := by decide +kernel
theorem dX4_lettersOfEnds_11 : decode cX4_lettersOfEnds 11 = .ok (.aload_n 0, 1) := by decide +kernel
theorem dX4_lettersOfEnds_12 : decode cX4_lettersOfEnds 12 = .ok (.iload_n 2, 1) := by decide +kernel
theorem dX4_lettersOfEnds_13 : decode cX4_lettersOfEnds 13 = .ok (.invokevirtual 83, 3) := by decide +kernel
theorem dX4_lettersOfEnds_16 : decode cX4_lettersOfEnds 16 = .ok (.ifCond .le 11, 3) := by decide +kernel
theorem dX4_lettersOfEnds_19 : decode cX4_lettersOfEnds 19 = .ok (.aload_n 0, 1) := by decide +kernel
theorem dX4_lettersOfEnds_20 : decode cX4_lettersOfEnds 20 = .ok (.iload_n 2, 1) := by decide +kernel
theorem dX4_lettersOfEnds_21 : decode cX4_lettersOfEnds 21 = .ok (.invokevirtual 86, 3) := by decide +kernel
theorem dX4_lettersOfEnds_24 : decode cX4_lettersOfEnds 24 = .ok (.goto 4, 3) := by decide +kernel
theorem dX4_lettersOfEnds_27 : decode cX4_lettersOfEnds 27 = .ok (.iconst 0, 1) := by decide +kernel
theorem dX4_lettersOfEnds_28 : decode cX4_lettersOfEnds 28 = .ok (.iadd, 1) := by decide +kernel
theorem dX4_lettersOfEnds_29 : decode cX4_lettersOfEnds 29 = .ok (.istore_n 1, 1) := by decide +kernel
theorem dX4_lettersOfEnds_30 : decode cX4_lettersOfEnds 30 = .ok (.iinc 2 1, 3) := by decide +kernel
theorem dX4_lettersOfEnds_33 : decode cX4_lettersOfEnds 33 = .ok (.goto (-29), 3) := by decide +kernel
theorem dX4_lettersOfEnds_36 : decode cX4_lettersOfEnds 36 = .ok (.iload_n 1, 1) := by decide +kernel
theorem dX4_lettersOfEnds_37 : decode cX4_lettersOfEnds 37 = .ok (.ireturn, 1) := by decide +kernel
set_option maxRecDepth 20000 in
theorem ggX4_greatest_X4_isUsed : GoodIn wsX4_greatest wsX4_isUsed := goodIn_r _ [5, 6, 7, 8, 9, 10, 11, 12, 13, 14, 15, 16, 17, 18, 19, 20, 21, 22] (by decide +kernel) (by decide +kernel)
set_option maxRecDepth 20000 in
theorem gX4_greatest_X4_isUsed : GoodIn wsX4_greatest (wsV RX4 55 RX4 yX4_isUsed wsX4_isUsed) := goodIn_app (goodIn_of _ (by decide +kernel)) ggX4_greatest_X4_isUsed
theorem dX4_greatest_0 : decode cX4_greatest 0 = .ok (.iconst 0, 1) := by decide +kernel
theorem dX4_greatest_1 : decode cX4_greatest 1 = .ok (.istore_n 1, 1) := by decide +kernel
theorem dX4_greatest_2 : decode cX4_greatest 2 = .ok (.iconst 0, 1) := by decide +kernel
theorem dX4_greatest_3 : decode cX4_greatest 3 = .ok (.istore_n 2, 1) := by decide +kernel
theorem dX4_greatest_4 : decode cX4_greatest 4 = .ok (.iload_n 2, 1) := by decide +kernel
theorem dX4_greatest_5 : decode cX4_greatest 5 = .ok (.sipush 160, 3) := by decide +kernel
theorem dX4_greatest_8 : decode cX4_greatest 8 = .ok (.if_icmp .ge 23, 3) := by decide +kernel
theorem dX4_greatest_11 : decode cX4_greatest 11 = .ok (.aload_n 0, 1) := by decide +kernel
theorem dX4_greatest_12 : decode cX4_greatest 12 = .ok (.iload_n 2, 1) := by decide +kernel
theorem dX4_greatest_13 : decode cX4_greatest 13 = .ok (.invokevirtual 55, 3) := by decide +kernel
theorem dX4_greatest_16 : decode cX4_greatest 16 = .ok (.ifCond .eq 7, 3) := by decide +kernel
theorem dX4_greatest_19 : decode cX4_greatest 19 = .ok (.iload_n 2, 1) := by decide +kernel
theorem dX4_greatest_20 : decode cX4_greatest 20 = .ok (.goto 4, 3) := by decide +kernel
theorem dX4_greatest_23 : decode cX4_greatest 23 = .ok (.iload_n 1, 1) := by decide +kernel
theorem dX4_greatest_24 : decode cX4_greatest 24 = .ok (.istore_n 1, 1) := by decide +kernel
theorem dX4_greatest_25 : decode cX4_greatest 25 = .ok (.iinc 2 1, 3) := by decide +kernel
theorem dX4_greatest_28 : decode cX4_greatest 28 = .ok (.goto (-24), 3) := by decide +kernel
theorem dX4_greatest_31 : decode cX4_greatest 31 = .ok (.iload_n 1, 1) := by decide +kernel
theorem dX4_greatest_32 : decode cX4_greatest 32 = .ok (.ireturn, 1) := by decide +kernel
set_option maxRecDepth 20000 in
theorem ggX4_lettersOfWords_X4_layBelow : GoodIn wsX4_lettersOfWords wsX4_layBelow := goodIn_r _ [7, 1, 8, 9, 10, 11, 6, 12, 39, 40, 41, 42, 43, 44, 45, 46, 47, 48, 49, 50, 51, 52, 53, 54] (by decide +kernel) (by decide +kernel)
set_option maxRecDepth 20000 in
theorem gX4_lettersOfWords_X4_layBelow : GoodIn wsX4_lettersOfWords (wsV RX4 166 RX4 yX4_layBelow wsX4_layBelow) := goodIn_app (goodIn_of _ (by decide +kernel)) ggX4_lettersOfWords_X4_layBelow
set_option maxRecDepth 20000 in
theorem ggX4_lettersOfWords_X4_layWord : GoodIn wsX4_lettersOfWords wsX4_layWord := goodIn_r _ [16, 2, 1, 8, 17, 18, 9, 10, 11, 6, 12, 19, 20, 21, 22, 23, 24, 25, 26, 27, 28, 29, 30, 31, 32, 33, 34, 35, 36, 37, 38, 39, 40, 41, 42, 43, 44, 45, 46, 47, 48, 49, 50, 51, 52, 53, 54] (by decide +kernel) (by decide +kernel)
set_option maxRecDepth 20000 in
theorem gX4_lettersOfWords_X4_layWord : GoodIn wsX4_lettersOfWords (wsV RX4 169 RX4 yX4_layWord wsX4_layWord) := goodIn_app (goodIn_of _ (by decide +kernel)) ggX4_lettersOfWords_X4_layWord
theorem dX4_lettersOfWords_0 : decode cX4_lettersOfWords 0 = .ok (.aload_n 0, 1) := by decide +kernel
theorem dX4_lettersOfWords_1 : decode cX4_lettersOfWords 1 = .ok (.invokevirtual 166, 3) := by decide +kernel
theorem dX4_lettersOfWords_4 : decode cX4_lettersOfWords 4 = .ok (.iconst 0, 1) := by decide +kernel
theorem dX4_lettersOfWords_5 : decode cX4_lettersOfWords 5 = .ok (.istore_n 1, 1) := by decide +kernel
theorem dX4_lettersOfWords_6 : decode cX4_lettersOfWords 6 = .ok (.iconst 0, 1) := by decide +kernel
theorem dX4_lettersOfWords_7 : decode cX4_lettersOfWords 7 = .ok (.istore_n 2, 1) := by decide +kernel
theorem dX4_lettersOfWords_8 : decode cX4_lettersOfWords 8 = .ok (.iload_n 2, 1) := by decide +kernel
theorem dX4_lettersOfWords_9 : decode cX4_lettersOfWords 9 = .ok (.aload_n 0, 1) := by decide +kernel
theorem dX4_lettersOfWords_10 : decode cX4_lettersOfWords 10 = .ok (.getfield 25, 3) := by decide +kernel
theorem dX4_lettersOfWords_13 : decode cX4_lettersOfWords 13 = .ok (.iconst 0, 1) := by decide +kernel
theorem dX4_lettersOfWords_14 : decode cX4_lettersOfWords 14 = .ok (.iaload, 1) := by decide +kernel
theorem dX4_lettersOfWords_15 : decode cX4_lettersOfWords 15 = .ok (.if_icmp .ge 21, 3) := by decide +kernel
theorem dX4_lettersOfWords_18 : decode cX4_lettersOfWords 18 = .ok (.aload_n 0, 1) := by decide +kernel
theorem dX4_lettersOfWords_19 : decode cX4_lettersOfWords 19 = .ok (.iload_n 2, 1) := by decide +kernel
theorem dX4_lettersOfWords_20 : decode cX4_lettersOfWords 20 = .ok (.invokevirtual 169, 3) := by decide +kernel
theorem dX4_lettersOfWords_23 : decode cX4_lettersOfWords 23 = .ok (.iload_n 1, 1) := by decide +kernel
theorem dX4_lettersOfWords_24 : decode cX4_lettersOfWords 24 = .ok (.aload_n 0, 1) := by decide +kernel
theorem dX4_lettersOfWords_25 : decode cX4_lettersOfWords 25 = .ok (.getfield 160, 3) := by decide +kernel
theorem dX4_lettersOfWords_28 : decode cX4_lettersOfWords 28 = .ok (.iadd, 1) := by decide +kernel
theorem dX4_lettersOfWords_29 : decode cX4_lettersOfWords 29 = .ok (.istore_n 1, 1) := by decide +kernel
theorem dX4_lettersOfWords_30 : decode cX4_lettersOfWords 30 = .ok (.iinc 2 1, 3) := by decide +kernel
theorem dX4_lettersOfWords_33 : decode cX4_lettersOfWords 33 = .ok (.goto (-25), 3) := by decide +kernel
theorem dX4_lettersOfWords_36 : decode cX4_lettersOfWords 36 = .ok (.iload_n 1, 1) := by decide +kernel
theorem dX4_lettersOfWords_37 : decode cX4_lettersOfWords 37 = .ok (.ireturn, 1) := by decide +kernel
set_option maxRecDepth 20000 in
theorem ggX4_counted_X4_cellsOf : GoodIn wsX4_counted wsX4_cellsOf := goodIn_r _ [8, 1, 69, 70, 71, 72, 73, 74, 75, 76, 77, 78, 79, 80, 81, 82, 83, 84] (by decide +kernel) (by decide +kernel)
set_option maxRecDepth 20000 in
theorem gX4_counted_X4_cellsOf : GoodIn wsX4_counted (wsV RX4 191 RX4 yX4_cellsOf wsX4_cellsOf) := goodIn_app (goodIn_of _ (by decide +kernel)) ggX4_counted_X4_cellsOf
set_option maxRecDepth 20000 in
theorem ggX4_counted_X4_used : GoodIn wsX4_counted wsX4_used := goodIn_r _ [12, 13, 14, 15, 7, 16, 1, 69, 70, 71, 72, 73, 74, 75, 76, 77, 78, 79, 80, 81, 82, 83, 84] (by decide +kernel) (by decide +kernel)
set_option maxRecDepth 20000 in
theorem gX4_counted_X4_used : GoodIn wsX4_counted (wsV RX4 178 RX4 yX4_used wsX4_used) := goodIn_app (goodIn_of _ (by decide +kernel)) ggX4_counted_X4_used
set_option maxRecDepth 20000 in
theorem ggX4_counted_X4_ends : GoodIn wsX4_counted wsX4_ends := goodIn_r _ [20, 21, 22, 23, 7, 24, 1, 69, 70, 71, 72, 73, 74, 75, 76, 77, 78, 79, 80, 81, 82, 83, 84] (by decide +kernel) (by decide +kernel)
set_option maxRecDepth 20000 in
theorem gX4_counted_X4_ends : GoodIn wsX4_counted (wsV RX4 194 RX4 yX4_ends wsX4_ends) := goodIn_app (goodIn_of _ (by decide +kernel)) ggX4_counted_X4_ends
set_option maxRecDepth 20000 in
theorem ggX4_counted_X4_lettersOfEnds : GoodIn wsX4_counted wsX4_lettersOfEnds := goodIn_r _ [28, 21, 22, 23, 7, 24, 1, 29, 30, 31, 32, 69, 70, 71, 72, 73, 74, 75, 76, 77, 78, 79, 80, 81, 82, 83, 84] (by decide +kernel) (by decide +kernel)
set_option maxRecDepth 20000 in
theorem gX4_counted_X4_lettersOfEnds : GoodIn wsX4_counted (wsV RX4 197 RX4 yX4_lettersOfEnds wsX4_lettersOfEnds) := goodIn_app (goodIn_of _ (by decide +kernel)) ggX4_counted_X4_lettersOfEnds
set_option maxRecDepth 20000 in
theorem ggX4_counted_X4_greatest : GoodIn wsX4_counted wsX4_greatest := goodIn_r _ [36, 13, 14, 15, 7, 16, 1, 69, 70, 71, 72, 73, 74, 75, 76, 77, 78, 79, 80, 81, 82, 83, 84] (by decide +kernel) (by decide +kernel)
set_option maxRecDepth 20000 in
theorem gX4_counted_X4_greatest : GoodIn wsX4_counted (wsV RX4 200 RX4 yX4_greatest wsX4_greatest) := goodIn_app (goodIn_of _ (by decide +kernel)) ggX4_counted_X4_greatest
set_option maxRecDepth 20000 in
theorem ggX4_counted_X4_lettersOfWords : GoodIn wsX4_counted wsX4_lettersOfWords := goodIn_r _ [40, 41, 42, 43, 44, 45, 7, 46, 1, 47, 48, 49, 50, 51, 52, 53, 54, 55, 56, 57, 58, 59, 60, 61, 62, 63, 64, 13, 14, 15, 16, 29, 30, 31, 32, 65, 66, 67, 68, 69, 70, 71, 72, 73, 74, 75, 76, 77, 78, 79, 80, 81, 82, 83, 84] (by decide +kernel) (by decide +kernel)
set_option maxRecDepth 20000 in
theorem gX4_counted_X4_lettersOfWords : GoodIn wsX4_counted (wsV RX4 203 RX4 yX4_lettersOfWords wsX4_lettersOfWords) := goodIn_app (goodIn_of _ (by decide +kernel)) ggX4_counted_X4_lettersOfWords
theorem dX4_counted_0 : decode cX4_counted 0 = .ok (.iload_n 1, 1) := by decide +kernel
theorem dX4_counted_1 : decode cX4_counted 1 = .ok (.tableswitch 102 0 8 #[51, 57, 62, 68, 73, 78, 87, 92, 97], 51) := by decide +kernel
theorem dX4_counted_52 : decode cX4_counted 52 = .ok (.aload_n 0, 1) := by decide +kernel
theorem dX4_counted_53 : decode cX4_counted 53 = .ok (.iconst 2, 1) := by decide +kernel
theorem dX4_counted_54 : decode cX4_counted 54 = .ok (.invokevirtual 191, 3) := by decide +kernel
theorem dX4_counted_57 : decode cX4_counted 57 = .ok (.ireturn, 1) := by decide +kernel
theorem dX4_counted_58 : decode cX4_counted 58 = .ok (.aload_n 0, 1) := by decide +kernel
theorem dX4_counted_59 : decode cX4_counted 59 = .ok (.invokevirtual 178, 3) := by decide +kernel
theorem dX4_counted_62 : decode cX4_counted 62 = .ok (.ireturn, 1) := by decide +kernel
theorem dX4_counted_63 : decode cX4_counted 63 = .ok (.aload_n 0, 1) := by decide +kernel
theorem dX4_counted_64 : decode cX4_counted 64 = .ok (.iconst 1, 1) := by decide +kernel
theorem dX4_counted_65 : decode cX4_counted 65 = .ok (.invokevirtual 191, 3) := by decide +kernel
theorem dX4_counted_68 : decode cX4_counted 68 = .ok (.ireturn, 1) := by decide +kernel
theorem dX4_counted_69 : decode cX4_counted 69 = .ok (.aload_n 0, 1) := by decide +kernel
theorem dX4_counted_70 : decode cX4_counted 70 = .ok (.invokevirtual 194, 3) := by decide +kernel
theorem dX4_counted_73 : decode cX4_counted 73 = .ok (.ireturn, 1) := by decide +kernel
theorem dX4_counted_74 : decode cX4_counted 74 = .ok (.aload_n 0, 1) := by decide +kernel
theorem dX4_counted_75 : decode cX4_counted 75 = .ok (.invokevirtual 197, 3) := by decide +kernel
theorem dX4_counted_78 : decode cX4_counted 78 = .ok (.ireturn, 1) := by decide +kernel
theorem dX4_counted_79 : decode cX4_counted 79 = .ok (.aload_n 0, 1) := by decide +kernel
theorem dX4_counted_80 : decode cX4_counted 80 = .ok (.getfield 7, 3) := by decide +kernel
theorem dX4_counted_83 : decode cX4_counted 83 = .ok (.sipush 1360, 3) := by decide +kernel
theorem dX4_counted_86 : decode cX4_counted 86 = .ok (.iaload, 1) := by decide +kernel
theorem dX4_counted_87 : decode cX4_counted 87 = .ok (.ireturn, 1) := by decide +kernel
theorem dX4_counted_88 : decode cX4_counted 88 = .ok (.aload_n 0, 1) := by decide +kernel
theorem dX4_counted_89 : decode cX4_counted 89 = .ok (.invokevirtual 200, 3) := by decide +kernel
theorem dX4_counted_92 : decode cX4_counted 92 = .ok (.ireturn, 1) := by decide +kernel
theorem dX4_counted_93 : decode cX4_counted 93 = .ok (.aload_n 0, 1) := by decide +kernel
theorem dX4_counted_94 : decode cX4_counted 94 = .ok (.invokevirtual 203, 3) := by decide +kernel
theorem dX4_counted_97 : decode cX4_counted 97 = .ok (.ireturn, 1) := by decide +kernel
theorem dX4_counted_98 : decode cX4_counted 98 = .ok (.aload_n 0, 1) := by decide +kernel
theorem dX4_counted_99 : decode cX4_counted 99 = .ok (.getfield 133, 3) := by decide +kernel
theorem dX4_counted_102 : decode cX4_counted 102 = .ok (.ireturn, 1) := by decide +kernel
theorem dX4_counted_103 : decode cX4_counted 103 = .ok (.aload_n 0, 1) := by decide +kernel
theorem dX4_counted_104 : decode cX4_counted 104 = .ok (.getfield 48, 3) := by decide +kernel
theorem dX4_counted_107 : decode cX4_counted 107 = .ok (.ireturn, 1) := by decide +kernel
set_option maxRecDepth 20000 in
theorem ggX4_count_X4_in : GoodIn wsX4_count wsX4_in := goodIn_r _ [5] (by decide +kernel) (by decide +kernel)
set_option maxRecDepth 20000 in
theorem gX4_count_X4_in : GoodIn wsX4_count (va_wsS RX4 143 yX4_in wsX4_in) := goodIn_app (goodIn_of _ (by decide +kernel)) ggX4_count_X4_in
set_option maxRecDepth 20000 in
theorem ggX4_count_X4_counted : GoodIn wsX4_count wsX4_counted := goodIn_r _ [9, 10, 11, 12, 13, 14, 15, 4, 16, 17, 18, 19, 20, 21, 22, 23, 24, 25, 26, 27, 28, 29, 30, 31, 32, 33, 34, 35, 36, 37, 38, 39, 40, 41, 42, 43, 44, 45, 46, 47, 48, 49, 50, 51, 52, 53, 54, 55, 56, 57, 58, 59, 60, 61, 62, 63, 64, 65, 66, 67, 68, 69, 70, 71, 72, 73, 74, 75, 76, 77, 78, 79, 80, 81, 82, 83, 84, 85, 86, 87, 88, 89, 90, 91, 92] (by decide +kernel) (by decide +kernel)
set_option maxRecDepth 20000 in
theorem gX4_count_X4_counted : GoodIn wsX4_count (wsV RX4 206 RX4 yX4_counted wsX4_counted) := goodIn_app (goodIn_of _ (by decide +kernel)) ggX4_count_X4_counted
theorem dX4_count_0 : decode cX4_count 0 = .ok (.aload_n 0, 1) := by decide +kernel
theorem dX4_count_1 : decode cX4_count 1 = .ok (.iload_n 1, 1) := by decide +kernel
theorem dX4_count_2 : decode cX4_count 2 = .ok (.iconst 0, 1) := by decide +kernel
theorem dX4_count_3 : decode cX4_count 3 = .ok (.bipush 9, 2) := by decide +kernel
theorem dX4_count_5 : decode cX4_count 5 = .ok (.invokestatic 143, 3) := by decide +kernel
theorem dX4_count_8 : decode cX4_count 8 = .ok (.ifCond .eq 7, 3) := by decide +kernel
theorem dX4_count_11 : decode cX4_count 11 = .ok (.iconst 0, 1) := by decide +kernel
theorem dX4_count_12 : decode cX4_count 12 = .ok (.goto 4, 3) := by decide +kernel
theorem dX4_count_15 : decode cX4_count 15 = .ok (.iconst 1, 1) := by decide +kernel
theorem dX4_count_16 : decode cX4_count 16 = .ok (.putfield 40, 3) := by decide +kernel
theorem dX4_count_19 : decode cX4_count 19 = .ok (.aload_n 0, 1) := by decide +kernel
theorem dX4_count_20 : decode cX4_count 20 = .ok (.getfield 40, 3) := by decide +kernel
theorem dX4_count_23 : decode cX4_count 23 = .ok (.ifCond .le 7, 3) := by decide +kernel
theorem dX4_count_26 : decode cX4_count 26 = .ok (.iconst 0, 1) := by decide +kernel
theorem dX4_count_27 : decode cX4_count 27 = .ok (.goto 8, 3) := by decide +kernel
theorem dX4_count_30 : decode cX4_count 30 = .ok (.aload_n 0, 1) := by decide +kernel
theorem dX4_count_31 : decode cX4_count 31 = .ok (.iload_n 1, 1) := by decide +kernel
theorem dX4_count_32 : decode cX4_count 32 = .ok (.invokevirtual 206, 3) := by decide +kernel
theorem dX4_count_35 : decode cX4_count 35 = .ok (.ireturn, 1) := by decide +kernel
set_option maxRecDepth 20000 in
theorem ggX4_find_X4_leafOf : GoodIn wsX4_find wsX4_leafOf := goodIn_r _ [8, 9, 10, 11, 12, 7, 13, 14, 15, 16, 17, 18, 19, 20, 21, 22, 23, 24, 25, 26, 27, 28, 29, 30, 31, 32, 33, 34, 35, 36, 37, 38, 39, 40, 41, 42, 43, 44, 45, 46, 47, 48, 49, 50, 51, 52, 53, 54, 55, 56, 57] (by decide +kernel) (by decide +kernel)
set_option maxRecDepth 20000 in
theorem gX4_find_X4_leafOf : GoodIn wsX4_find (wsV RX4 154 RX4 yX4_leafOf wsX4_leafOf) := goodIn_app (goodIn_of _ (by decide +kernel)) ggX4_find_X4_leafOf
theorem dX4_find_0 : decode cX4_find 0 = .ok (.aload_n 0, 1) := by decide +kernel
theorem dX4_find_1 : decode cX4_find 1 = .ok (.iconst 0, 1) := by decide +kernel
theorem dX4_find_2 : decode cX4_find 2 = .ok (.putfield 40, 3) := by decide +kernel
theorem dX4_find_5 : decode cX4_find 5 = .ok (.aload_n 0, 1) := by decide +kernel
theorem dX4_find_6 : decode cX4_find 6 = .ok (.aload_n 0, 1) := by decide +kernel
theorem dX4_find_7 : decode cX4_find 7 = .ok (.getfield 19, 3) := by decide +kernel
theorem dX4_find_10 : decode cX4_find 10 = .ok (.aload_n 0, 1) := by decide +kernel
theorem dX4_find_11 : decode cX4_find 11 = .ok (.getfield 133, 3) := by decide +kernel
theorem dX4_find_14 : decode cX4_find 14 = .ok (.invokevirtual 154, 3) := by decide +kernel
theorem dX4_find_17 : decode cX4_find 17 = .ok (.ireturn, 1) := by decide +kernel
set_option maxRecDepth 20000 in
theorem ggX4_longestOne_X4_layBelow : GoodIn wsX4_longestOne wsX4_layBelow := goodIn_r _ [7, 1, 8, 9, 10, 11, 6, 12, 45, 46, 47, 48, 49, 50, 51, 52, 53, 54, 55, 56, 57, 58, 59, 60] (by decide +kernel) (by decide +kernel)
set_option maxRecDepth 20000 in
theorem gX4_longestOne_X4_layBelow : GoodIn wsX4_longestOne (wsV RX4 166 RX4 yX4_layBelow wsX4_layBelow) := goodIn_app (goodIn_of _ (by decide +kernel)) ggX4_longestOne_X4_layBelow
set_option maxRecDepth 20000 in
theorem ggX4_longestOne_X4_layWord : GoodIn wsX4_longestOne wsX4_layWord := goodIn_r _ [16, 2, 1, 8, 17, 18, 9, 10, 11, 6, 12, 19, 20, 21, 22, 23, 24, 25, 26, 27, 28, 29, 30, 31, 32, 33, 34, 35, 36, 37, 38, 45, 46, 47, 48, 49, 50, 51, 52, 53, 54, 55, 56, 57, 58, 59, 60] (by decide +kernel) (by decide +kernel)
set_option maxRecDepth 20000 in
theorem gX4_longestOne_X4_layWord : GoodIn wsX4_longestOne (wsV RX4 169 RX4 yX4_layWord wsX4_layWord) := goodIn_app (goodIn_of _ (by decide +kernel)) ggX4_longestOne_X4_layWord
set_option maxRecDepth 20000 in
theorem ggX4_longestOne_X4_alike : GoodIn wsX4_longestOne wsX4_alike := goodIn_r _ [42, 43, 2, 17, 44, 45, 46, 47, 48, 49, 50, 51, 52, 53, 54, 55, 56, 57, 58, 59, 60] (by decide +kernel) (by decide +kernel)
set_option maxRecDepth 20000 in
theorem gX4_longestOne_X4_alike : GoodIn wsX4_longestOne (wsV RX4 172 RX4 yX4_alike wsX4_alike) := goodIn_app (goodIn_of _ (by decide +kernel)) ggX4_longestOne_X4_alike
theorem dX4_longestOne_0 : decode cX4_longestOne 0 = .ok (.aload_n 0, 1) := by decide +kernel
theorem dX4_longestOne_1 : decode cX4_longestOne 1 = .ok (.invokevirtual 166, 3) := by decide +kernel
theorem dX4_longestOne_4 : decode cX4_longestOne 4 = .ok (.iconst (-1), 1) := by decide +kernel
theorem dX4_longestOne_5 : decode cX4_longestOne 5 = .ok (.istore_n 1, 1) := by decide +kernel
theorem dX4_longestOne_6 : decode cX4_longestOne 6 = .ok (.iconst 0, 1) := by decide +kernel
theorem dX4_longestOne_7 : decode cX4_longestOne 7 = .ok (.istore_n 2, 1) := by decide +kernel
theorem dX4_longestOne_8 : decode cX4_longestOne 8 = .ok (.iload_n 2, 1) := by decide +kernel
theorem dX4_longestOne_9 : decode cX4_longestOne 9 = .ok (.aload_n 0, 1) := by decide +kernel
theorem dX4_longestOne_10 : decode cX4_longestOne 10 = .ok (.getfield 25, 3) := by decide +kernel
theorem dX4_longestOne_13 : decode cX4_longestOne 13 = .ok (.iconst 0, 1) := by decide +kernel
theorem dX4_longestOne_14 : decode cX4_longestOne 14 = .ok (.iaload, 1) := by decide +kernel
theorem dX4_longestOne_15 : decode cX4_longestOne 15 = .ok (.if_icmp .ge 42, 3) := by decide +kernel
theorem dX4_longestOne_18 : decode cX4_longestOne 18 = .ok (.aload_n 0, 1) := by decide +kernel
theorem dX4_longestOne_19 : decode cX4_longestOne 19 = .ok (.iload_n 2, 1) := by decide +kernel
theorem dX4_longestOne_20 : decode cX4_longestOne 20 = .ok (.invokevirtual 169, 3) := by decide +kernel
theorem dX4_longestOne_23 : decode cX4_longestOne 23 = .ok (.aload_n 0, 1) := by decide +kernel
theorem dX4_longestOne_24 : decode cX4_longestOne 24 = .ok (.invokevirtual 172, 3) := by decide +kernel
theorem dX4_longestOne_27 : decode cX4_longestOne 27 = .ok (.aload_n 0, 1) := by decide +kernel
theorem dX4_longestOne_28 : decode cX4_longestOne 28 = .ok (.getfield 160, 3) := by decide +kernel
theorem dX4_longestOne_31 : decode cX4_longestOne 31 = .ok (.if_icmp .ne 18, 3) := by decide +kernel
theorem dX4_longestOne_34 : decode cX4_longestOne 34 = .ok (.aload_n 0, 1) := by decide +kernel
theorem dX4_longestOne_35 : decode cX4_longestOne 35 = .ok (.getfield 160, 3) := by decide +kernel
theorem dX4_longestOne_38 : decode cX4_longestOne 38 = .ok (.iload_n 1, 1) := by decide +kernel
theorem dX4_longestOne_39 : decode cX4_longestOne 39 = .ok (.if_icmp .le 10, 3) := by decide +kernel
theorem dX4_longestOne_42 : decode cX4_longestOne 42 = .ok (.aload_n 0, 1) := by decide +kernel
theorem dX4_longestOne_43 : decode cX4_longestOne 43 = .ok (.getfield 160, 3) := by decide +kernel
theorem dX4_longestOne_46 : decode cX4_longestOne 46 = .ok (.goto 4, 3) := by decide +kernel
theorem dX4_longestOne_49 : decode cX4_longestOne 49 = .ok (.iload_n 1, 1) := by decide +kernel
theorem dX4_longestOne_50 : decode cX4_longestOne 50 = .ok (.istore_n 1, 1) := by decide +kernel
theorem dX4_longestOne_51 : decode cX4_longestOne 51 = .ok (.iinc 2 1, 3) := by decide +kernel
theorem dX4_longestOne_54 : decode cX4_longestOne 54 = .ok (.goto (-46), 3) := by decide +kernel
theorem dX4_longestOne_57 : decode cX4_longestOne 57 = .ok (.iload_n 1, 1) := by decide +kernel
theorem dX4_longestOne_58 : decode cX4_longestOne 58 = .ok (.ireturn, 1) := by decide +kernel
set_option maxRecDepth 20000 in
theorem ggX4_longest_X4_longestOne : GoodIn wsX4_longest wsX4_longestOne := goodIn_r _ [6, 7, 8, 9, 10, 11, 5, 12, 13, 14, 15, 16, 17, 18, 19, 20, 21, 22, 23, 24, 25, 26, 27, 28, 29, 30, 31, 32, 33, 34, 35, 36, 37, 38, 39, 40, 41, 42, 43, 44, 45, 46, 47, 48, 49, 50, 51, 52, 53, 54, 55, 56, 57, 58, 59, 60, 61, 62, 63, 64, 65] (by decide +kernel) (by decide +kernel)
set_option maxRecDepth 20000 in
theorem gX4_longest_X4_longestOne : GoodIn wsX4_longest (wsV RX4 209 RX4 yX4_longestOne wsX4_longestOne) := goodIn_app (goodIn_of _ (by decide +kernel)) ggX4_longest_X4_longestOne
theorem dX4_longest_0 : decode cX4_longest 0 = .ok (.aload_n 0, 1) := by decide +kernel
theorem dX4_longest_1 : decode cX4_longest 1 = .ok (.iconst 0, 1) := by decide +kernel
theorem dX4_longest_2 : decode cX4_longest 2 = .ok (.putfield 40, 3) := by decide +kernel
theorem dX4_longest_5 : decode cX4_longest 5 = .ok (.aload_n 0, 1) := by decide +kernel
theorem dX4_longest_6 : decode cX4_longest 6 = .ok (.invokevirtual 209, 3) := by decide +kernel
theorem dX4_longest_9 : decode cX4_longest 9 = .ok (.ireturn, 1) := by decide +kernel
set_option maxRecDepth 20000 in
theorem ggX4_beginningMany_X4_layBelow : GoodIn wsX4_beginningMany wsX4_layBelow := goodIn_r _ [7, 1, 8, 9, 10, 11, 6, 12, 45, 46, 47, 48, 49, 50, 51, 52, 53, 54, 55, 56, 57, 58, 59, 60] (by decide +kernel) (by decide +kernel)
set_option maxRecDepth 20000 in
theorem gX4_beginningMany_X4_layBelow : GoodIn wsX4_beginningMany (wsV RX4 166 RX4 yX4_layBelow wsX4_layBelow) := goodIn_app (goodIn_of _ (by decide +kernel)) ggX4_beginningMany_X4_layBelow
set_option maxRecDepth 20000 in
theorem ggX4_beginningMany_X4_layWord : GoodIn wsX4_beginningMany wsX4_layWord := goodIn_r _ [16, 17, 1, 8, 18, 19, 9, 10, 11, 6, 12, 20, 21, 22, 23, 24, 25, 26, 27, 28, 29, 30, 31, 32, 33, 34, 35, 36, 37, 38, 39, 45, 46, 47, 48, 49, 50, 51, 52, 53, 54, 55, 56, 57, 58, 59, 60] (by decide +kernel) (by decide +kernel)
set_option maxRecDepth 20000 in
theorem gX4_beginningMany_X4_layWord : GoodIn wsX4_beginningMany (wsV RX4 169 RX4 yX4_layWord wsX4_layWord) := goodIn_app (goodIn_of _ (by decide +kernel)) ggX4_beginningMany_X4_layWord
set_option maxRecDepth 20000 in
theorem ggX4_beginningMany_X4_alike : GoodIn wsX4_beginningMany wsX4_alike := goodIn_r _ [43, 2, 17, 18, 44, 45, 46, 47, 48, 49, 50, 51, 52, 53, 54, 55, 56, 57, 58, 59, 60] (by decide +kernel) (by decide +kernel)
set_option maxRecDepth 20000 in
theorem gX4_beginningMany_X4_alike : GoodIn wsX4_beginningMany (wsV RX4 172 RX4 yX4_alike wsX4_alike) := goodIn_app (goodIn_of _ (by decide +kernel)) ggX4_beginningMany_X4_alike
theorem dX4_beginningMany_0 : decode cX4_beginningMany 0 = .ok (.aload_n 0, 1) := by decide +kernel
theorem dX4_beginningMany_1 : decode cX4_beginningMany 1 = .ok (.invokevirtual 166, 3) := by decide +kernel
theorem dX4_beginningMany_4 : decode cX4_beginningMany 4 = .ok (.iconst 0, 1) := by decide +kernel
theorem dX4_beginningMany_5 : decode cX4_beginningMany 5 = .ok (.istore_n 1, 1) := by decide +kernel
theorem dX4_beginningMany_6 : decode cX4_beginningMany 6 = .ok (.iconst 0, 1) := by decide +kernel
theorem dX4_beginningMany_7 : decode cX4_beginningMany 7 = .ok (.istore_n 2, 1) := by decide +kernel
theorem dX4_beginningMany_8 : decode cX4_beginningMany 8 = .ok (.iload_n 2, 1) := by decide +kernel
theorem dX4_beginningMany_9 : decode cX4_beginningMany 9 = .ok (.aload_n 0, 1) := by decide +kernel
theorem dX4_beginningMany_10 : decode cX4_beginningMany 10 = .ok (.getfield 25, 3) := by decide +kernel
theorem dX4_beginningMany_13 : decode cX4_beginningMany 13 = .ok (.iconst 0, 1) := by decide +kernel
theorem dX4_beginningMany_14 : decode cX4_beginningMany 14 = .ok (.iaload, 1) := by decide +kernel
theorem dX4_beginningMany_15 : decode cX4_beginningMany 15 = .ok (.if_icmp .ge 33, 3) := by decide +kernel
theorem dX4_beginningMany_18 : decode cX4_beginningMany 18 = .ok (.aload_n 0, 1) := by decide +kernel
theorem dX4_beginningMany_19 : decode cX4_beginningMany 19 = .ok (.iload_n 2, 1) := by decide +kernel
theorem dX4_beginningMany_20 : decode cX4_beginningMany 20 = .ok (.invokevirtual 169, 3) := by decide +kernel
theorem dX4_beginningMany_23 : decode cX4_beginningMany 23 = .ok (.iload_n 1, 1) := by decide +kernel
theorem dX4_beginningMany_24 : decode cX4_beginningMany 24 = .ok (.aload_n 0, 1) := by decide +kernel
theorem dX4_beginningMany_25 : decode cX4_beginningMany 25 = .ok (.invokevirtual 172, 3) := by decide +kernel
theorem dX4_beginningMany_28 : decode cX4_beginningMany 28 = .ok (.aload_n 0, 1) := by decide +kernel
theorem dX4_beginningMany_29 : decode cX4_beginningMany 29 = .ok (.getfield 133, 3) := by decide +kernel
theorem dX4_beginningMany_32 : decode cX4_beginningMany 32 = .ok (.if_icmp .ne 7, 3) := by decide +kernel
theorem dX4_beginningMany_35 : decode cX4_beginningMany 35 = .ok (.iconst 1, 1) := by decide +kernel
theorem dX4_beginningMany_36 : decode cX4_beginningMany 36 = .ok (.goto 4, 3) := by decide +kernel
theorem dX4_beginningMany_39 : decode cX4_beginningMany 39 = .ok (.iconst 0, 1) := by decide +kernel
theorem dX4_beginningMany_40 : decode cX4_beginningMany 40 = .ok (.iadd, 1) := by decide +kernel
theorem dX4_beginningMany_41 : decode cX4_beginningMany 41 = .ok (.istore_n 1, 1) := by decide +kernel
theorem dX4_beginningMany_42 : decode cX4_beginningMany 42 = .ok (.iinc 2 1, 3) := by decide +kernel
theorem dX4_beginningMany_45 : decode cX4_beginningMany 45 = .ok (.goto (-37), 3) := by decide +kernel
theorem dX4_beginningMany_48 : decode cX4_beginningMany 48 = .ok (.iload_n 1, 1) := by decide +kernel
theorem dX4_beginningMany_49 : decode cX4_beginningMany 49 = .ok (.ireturn, 1) := by decide +kernel
set_option maxRecDepth 20000 in
theorem ggX4_beginning_X4_beginningMany : GoodIn wsX4_beginning wsX4_beginningMany := goodIn_r _ [6, 7, 8, 9, 10, 11, 5, 12, 13, 14, 15, 16, 17, 18, 19, 20, 21, 22, 23, 24, 25, 26, 27, 28, 29, 30, 31, 32, 33, 34, 35, 36, 37, 38, 39, 40, 41, 42, 43, 44, 45, 46, 47, 48, 49, 50, 51, 52, 53, 54, 55, 56, 57, 58, 59, 60, 61, 62, 63, 64, 65] (by decide +kernel) (by decide +kernel)
set_option maxRecDepth 20000 in
theorem gX4_beginning_X4_beginningMany : GoodIn wsX4_beginning (wsV RX4 212 RX4 yX4_beginningMany wsX4_beginningMany) := goodIn_app (goodIn_of _ (by decide +kernel)) ggX4_beginning_X4_beginningMany
theorem dX4_beginning_0 : decode cX4_beginning 0 = .ok (.aload_n 0, 1) := by decide +kernel
theorem dX4_beginning_1 : decode cX4_beginning 1 = .ok (.iconst 0, 1) := by decide +kernel
theorem dX4_beginning_2 : decode cX4_beginning 2 = .ok (.putfield 40, 3) := by decide +kernel
theorem dX4_beginning_5 : decode cX4_beginning 5 = .ok (.aload_n 0, 1) := by decide +kernel
theorem dX4_beginning_6 : decode cX4_beginning 6 = .ok (.invokevirtual 212, 3) := by decide +kernel
theorem dX4_beginning_9 : decode cX4_beginning 9 = .ok (.ireturn, 1) := by decide +kernel
set_option maxRecDepth 20000 in
theorem ggX4_aheadMany_X4_layBelow : GoodIn wsX4_aheadMany wsX4_layBelow := goodIn_r _ [10, 1, 11, 12, 13, 14, 9, 15, 45, 46, 47, 48, 49, 50, 51, 52, 53, 54, 55, 56, 57, 58, 59, 60] (by decide +kernel) (by decide +kernel)
set_option maxRecDepth 20000 in
theorem gX4_aheadMany_X4_layBelow : GoodIn wsX4_aheadMany (wsV RX4 166 RX4 yX4_layBelow wsX4_layBelow) := goodIn_app (goodIn_of _ (by decide +kernel)) ggX4_aheadMany_X4_layBelow
set_option maxRecDepth 20000 in
theorem ggX4_aheadMany_X4_layWord : GoodIn wsX4_aheadMany wsX4_layWord := goodIn_r _ [19, 3, 1, 11, 4, 20, 12, 13, 14, 9, 15, 21, 22, 23, 24, 25, 26, 27, 28, 29, 30, 31, 32, 33, 34, 35, 36, 37, 38, 39, 40, 45, 46, 47, 48, 49, 50, 51, 52, 53, 54, 55, 56, 57, 58, 59, 60] (by decide +kernel) (by decide +kernel)
set_option maxRecDepth 20000 in
theorem gX4_aheadMany_X4_layWord : GoodIn wsX4_aheadMany (wsV RX4 169 RX4 yX4_layWord wsX4_layWord) := goodIn_app (goodIn_of _ (by decide +kernel)) ggX4_aheadMany_X4_layWord
set_option maxRecDepth 20000 in
theorem ggX4_aheadMany_X4_alike : GoodIn wsX4_aheadMany wsX4_alike := goodIn_r _ [44, 2, 3, 4, 5, 45, 46, 47, 48, 49, 50, 51, 52, 53, 54, 55, 56, 57, 58, 59, 60] (by decide +kernel) (by decide +kernel)
set_option maxRecDepth 20000 in
theorem gX4_aheadMany_X4_alike : GoodIn wsX4_aheadMany (wsV RX4 172 RX4 yX4_alike wsX4_alike) := goodIn_app (goodIn_of _ (by decide +kernel)) ggX4_aheadMany_X4_alike
theorem dX4_aheadMany_0 : decode cX4_aheadMany 0 = .ok (.aload_n 0, 1) := by decide +kernel
theorem dX4_aheadMany_1 : decode cX4_aheadMany 1 = .ok (.invokevirtual 166, 3) := by decide +kernel
theorem dX4_aheadMany_4 : decode cX4_aheadMany 4 = .ok (.iconst 0, 1) := by decide +kernel
theorem dX4_aheadMany_5 : decode cX4_aheadMany 5 = .ok (.istore_n 1, 1) := by decide +kernel
theorem dX4_aheadMany_6 : decode cX4_aheadMany 6 = .ok (.iconst 0, 1) := by decide +kernel
theorem dX4_aheadMany_7 : decode cX4_aheadMany 7 = .ok (.istore_n 2, 1) := by decide +kernel
theorem dX4_aheadMany_8 : decode cX4_aheadMany 8 = .ok (.iload_n 2, 1) := by decide +kernel
theorem dX4_aheadMany_9 : decode cX4_aheadMany 9 = .ok (.aload_n 0, 1) := by decide +kernel
theorem dX4_aheadMany_10 : decode cX4_aheadMany 10 = .ok (.getfield 25, 3) := by decide +kernel
theorem dX4_aheadMany_13 : decode cX4_aheadMany 13 = .ok (.iconst 0, 1) := by decide +kernel
theorem dX4_aheadMany_14 : decode cX4_aheadMany 14 = .ok (.iaload, 1) := by decide +kernel
theorem dX4_aheadMany_15 : decode cX4_aheadMany 15 = .ok (.if_icmp .ge 70, 3) := by decide +kernel
theorem dX4_aheadMany_18 : decode cX4_aheadMany 18 = .ok (.aload_n 0, 1) := by decide +kernel
theorem dX4_aheadMany_19 : decode cX4_aheadMany 19 = .ok (.iload_n 2, 1) := by decide +kernel
theorem dX4_aheadMany_20 : decode cX4_aheadMany 20 = .ok (.invokevirtual 169, 3) := by decide +kernel
theorem dX4_aheadMany_23 : decode cX4_aheadMany 23 = .ok (.aload_n 0, 1) := by decide +kernel
theorem dX4_aheadMany_24 : decode cX4_aheadMany 24 = .ok (.invokevirtual 172, 3) := by decide +kernel
theorem dX4_aheadMany_27 : decode cX4_aheadMany 27 = .ok (.istore_n 3, 1) := by decide +kernel
theorem dX4_aheadMany_28 : decode cX4_aheadMany 28 = .ok (.iload_n 3, 1) := by decide +kernel
theorem dX4_aheadMany_29 : decode cX4_aheadMany 29 = .ok (.aload_n 0, 1) := by decide +kernel
theorem dX4_aheadMany_30 : decode cX4_aheadMany 30 = .ok (.getfield 133, 3) := by decide +kernel
theorem dX4_aheadMany_33 : decode cX4_aheadMany 33 = .ok (.if_icmp .ge 30, 3) := by decide +kernel
theorem dX4_aheadMany_36 : decode cX4_aheadMany 36 = .ok (.iload_n 3, 1) := by decide +kernel
theorem dX4_aheadMany_37 : decode cX4_aheadMany 37 = .ok (.aload_n 0, 1) := by decide +kernel
theorem dX4_aheadMany_38 : decode cX4_aheadMany 38 = .ok (.getfield 160, 3) := by decide +kernel
theorem dX4_aheadMany_41 : decode cX4_aheadMany 41 = .ok (.if_icmp .eq 18, 3) := by decide +kernel
theorem dX4_aheadMany_44 : decode cX4_aheadMany 44 = .ok (.aload_n 0, 1) := by decide +kernel
theorem dX4_aheadMany_45 : decode cX4_aheadMany 45 = .ok (.getfield 28, 3) := by decide +kernel
theorem dX4_aheadMany_48 : decode cX4_aheadMany 48 = .ok (.iload_n 3, 1) := by decide +kernel
theorem dX4_aheadMany_49 : decode cX4_aheadMany 49 = .ok (.iaload, 1) := by decide +kernel
theorem dX4_aheadMany_50 : decode cX4_aheadMany 50 = .ok (.aload_n 0, 1) := by decide +kernel
theorem dX4_aheadMany_51 : decode cX4_aheadMany 51 = .ok (.getfield 19, 3) := by decide +kernel
theorem dX4_aheadMany_54 : decode cX4_aheadMany 54 = .ok (.iload_n 3, 1) := by decide +kernel
theorem dX4_aheadMany_55 : decode cX4_aheadMany 55 = .ok (.iaload, 1) := by decide +kernel
theorem dX4_aheadMany_56 : decode cX4_aheadMany 56 = .ok (.if_icmp .ge 7, 3) := by decide +kernel
theorem dX4_aheadMany_59 : decode cX4_aheadMany 59 = .ok (.iconst 1, 1) := by decide +kernel
theorem dX4_aheadMany_60 : decode cX4_aheadMany 60 = .ok (.goto 4, 3) := by decide +kernel
theorem dX4_aheadMany_63 : decode cX4_aheadMany 63 = .ok (.iconst 0, 1) := by decide +kernel
theorem dX4_aheadMany_64 : decode cX4_aheadMany 64 = .ok (.istore 4, 2) := by decide +kernel
theorem dX4_aheadMany_66 : decode cX4_aheadMany 66 = .ok (.iload_n 1, 1) := by decide +kernel
theorem dX4_aheadMany_67 : decode cX4_aheadMany 67 = .ok (.iload 4, 2) := by decide +kernel
theorem dX4_aheadMany_69 : decode cX4_aheadMany 69 = .ok (.ifCond .eq 7, 3) := by decide +kernel
theorem dX4_aheadMany_72 : decode cX4_aheadMany 72 = .ok (.iconst 1, 1) := by decide +kernel
theorem dX4_aheadMany_73 : decode cX4_aheadMany 73 = .ok (.goto 4, 3) := by decide +kernel
theorem dX4_aheadMany_76 : decode cX4_aheadMany 76 = .ok (.iconst 0, 1) := by decide +kernel
theorem dX4_aheadMany_77 : decode cX4_aheadMany 77 = .ok (.iadd, 1) := by decide +kernel
theorem dX4_aheadMany_78 : decode cX4_aheadMany 78 = .ok (.istore_n 1, 1) := by decide +kernel
theorem dX4_aheadMany_79 : decode cX4_aheadMany 79 = .ok (.iinc 2 1, 3) := by decide +kernel
theorem dX4_aheadMany_82 : decode cX4_aheadMany 82 = .ok (.goto (-74), 3) := by decide +kernel
theorem dX4_aheadMany_85 : decode cX4_aheadMany 85 = .ok (.iload_n 1, 1) := by decide +kernel
theorem dX4_aheadMany_86 : decode cX4_aheadMany 86 = .ok (.ireturn, 1) := by decide +kernel
set_option maxRecDepth 20000 in
theorem ggX4_ahead_X4_aheadMany : GoodIn wsX4_ahead wsX4_aheadMany := goodIn_r _ [6, 7, 8, 9, 10, 11, 12, 13, 14, 5, 15, 16, 17, 18, 19, 20, 21, 22, 23, 24, 25, 26, 27, 28, 29, 30, 31, 32, 33, 34, 35, 36, 37, 38, 39, 40, 41, 42, 43, 44, 45, 46, 47, 48, 49, 50, 51, 52, 53, 54, 55, 56, 57, 58, 59, 60, 61, 62, 63, 64, 65] (by decide +kernel) (by decide +kernel)
set_option maxRecDepth 20000 in
theorem gX4_ahead_X4_aheadMany : GoodIn wsX4_ahead (wsV RX4 215 RX4 yX4_aheadMany wsX4_aheadMany) := goodIn_app (goodIn_of _ (by decide +kernel)) ggX4_ahead_X4_aheadMany
theorem dX4_ahead_0 : decode cX4_ahead 0 = .ok (.aload_n 0, 1) := by decide +kernel
theorem dX4_ahead_1 : decode cX4_ahead 1 = .ok (.iconst 0, 1) := by decide +kernel
theorem dX4_ahead_2 : decode cX4_ahead 2 = .ok (.putfield 40, 3) := by decide +kernel
theorem dX4_ahead_5 : decode cX4_ahead 5 = .ok (.aload_n 0, 1) := by decide +kernel
theorem dX4_ahead_6 : decode cX4_ahead 6 = .ok (.invokevirtual 215, 3) := by decide +kernel
theorem dX4_ahead_9 : decode cX4_ahead 9 = .ok (.ireturn, 1) := by decide +kernel
set_option maxRecDepth 20000 in
theorem ggX4_toldWord_X4_layBelow : GoodIn wsX4_toldWord wsX4_layBelow := goodIn_r _ [8, 1, 9, 10, 11, 12, 7, 13, 39, 40, 41, 42, 43, 44, 45, 46, 47, 48, 49, 50, 51, 52, 53, 54] (by decide +kernel) (by decide +kernel)
set_option maxRecDepth 20000 in
theorem gX4_toldWord_X4_layBelow : GoodIn wsX4_toldWord (wsV RX4 166 RX4 yX4_layBelow wsX4_layBelow) := goodIn_app (goodIn_of _ (by decide +kernel)) ggX4_toldWord_X4_layBelow
set_option maxRecDepth 20000 in
theorem ggX4_toldWord_X4_layWord : GoodIn wsX4_toldWord wsX4_layWord := goodIn_r _ [17, 2, 1, 9, 3, 18, 10, 11, 12, 7, 13, 19, 20, 21, 22, 23, 24, 25, 26, 27, 28, 29, 30, 31, 32, 33, 34, 35, 36, 37, 38, 39, 40, 41, 42, 43, 44, 45, 46, 47, 48, 49, 50, 51, 52, 53, 54] (by decide +kernel) (by decide +kernel)
set_option maxRecDepth 20000 in
theorem gX4_toldWord_X4_layWord : GoodIn wsX4_toldWord (wsV RX4 169 RX4 yX4_layWord wsX4_layWord) := goodIn_app (goodIn_of _ (by decide +kernel)) ggX4_toldWord_X4_layWord
theorem dX4_toldWord_0 : decode cX4_toldWord 0 = .ok (.aload_n 0, 1) := by decide +kernel
theorem dX4_toldWord_1 : decode cX4_toldWord 1 = .ok (.invokevirtual 166, 3) := by decide +kernel
theorem dX4_toldWord_4 : decode cX4_toldWord 4 = .ok (.iload_n 1, 1) := by decide +kernel
theorem dX4_toldWord_5 : decode cX4_toldWord 5 = .ok (.aload_n 0, 1) := by decide +kernel
theorem dX4_toldWord_6 : decode cX4_toldWord 6 = .ok (.getfield 25, 3) := by decide +kernel
theorem dX4_toldWord_9 : decode cX4_toldWord 9 = .ok (.iconst 0, 1) := by decide +kernel
theorem dX4_toldWord_10 : decode cX4_toldWord 10 = .ok (.iaload, 1) := by decide +kernel
theorem dX4_toldWord_11 : decode cX4_toldWord 11 = .ok (.if_icmp .lt 5, 3) := by decide +kernel
theorem dX4_toldWord_14 : decode cX4_toldWord 14 = .ok (.iconst (-1), 1) := by decide +kernel
theorem dX4_toldWord_15 : decode cX4_toldWord 15 = .ok (.ireturn, 1) := by decide +kernel
theorem dX4_toldWord_16 : decode cX4_toldWord 16 = .ok (.aload_n 0, 1) := by decide +kernel
theorem dX4_toldWord_17 : decode cX4_toldWord 17 = .ok (.iload_n 1, 1) := by decide +kernel
theorem dX4_toldWord_18 : decode cX4_toldWord 18 = .ok (.invokevirtual 169, 3) := by decide +kernel
theorem dX4_toldWord_21 : decode cX4_toldWord 21 = .ok (.iload_n 2, 1) := by decide +kernel
theorem dX4_toldWord_22 : decode cX4_toldWord 22 = .ok (.aload_n 0, 1) := by decide +kernel
theorem dX4_toldWord_23 : decode cX4_toldWord 23 = .ok (.getfield 160, 3) := by decide +kernel
theorem dX4_toldWord_26 : decode cX4_toldWord 26 = .ok (.if_icmp .ge 12, 3) := by decide +kernel
theorem dX4_toldWord_29 : decode cX4_toldWord 29 = .ok (.aload_n 0, 1) := by decide +kernel
theorem dX4_toldWord_30 : decode cX4_toldWord 30 = .ok (.getfield 28, 3) := by decide +kernel
theorem dX4_toldWord_33 : decode cX4_toldWord 33 = .ok (.iload_n 2, 1) := by decide +kernel
theorem dX4_toldWord_34 : decode cX4_toldWord 34 = .ok (.iaload, 1) := by decide +kernel
theorem dX4_toldWord_35 : decode cX4_toldWord 35 = .ok (.goto 16, 3) := by decide +kernel
theorem dX4_toldWord_38 : decode cX4_toldWord 38 = .ok (.iload_n 2, 1) := by decide +kernel
theorem dX4_toldWord_39 : decode cX4_toldWord 39 = .ok (.aload_n 0, 1) := by decide +kernel
theorem dX4_toldWord_40 : decode cX4_toldWord 40 = .ok (.getfield 160, 3) := by decide +kernel
theorem dX4_toldWord_43 : decode cX4_toldWord 43 = .ok (.if_icmp .ne 7, 3) := by decide +kernel
theorem dX4_toldWord_46 : decode cX4_toldWord 46 = .ok (.iconst 0, 1) := by decide +kernel
theorem dX4_toldWord_47 : decode cX4_toldWord 47 = .ok (.goto 4, 3) := by decide +kernel
theorem dX4_toldWord_50 : decode cX4_toldWord 50 = .ok (.iconst (-1), 1) := by decide +kernel
theorem dX4_toldWord_51 : decode cX4_toldWord 51 = .ok (.ireturn, 1) := by decide +kernel
set_option maxRecDepth 20000 in
theorem ggX4_word_X4_in : GoodIn wsX4_word wsX4_in := goodIn_r _ [5] (by decide +kernel) (by decide +kernel)
set_option maxRecDepth 20000 in
theorem gX4_word_X4_in : GoodIn wsX4_word (va_wsS RX4 143 yX4_in wsX4_in) := goodIn_app (goodIn_of _ (by decide +kernel)) ggX4_word_X4_in
set_option maxRecDepth 20000 in
theorem ggX4_word_X4_toldWord : GoodIn wsX4_word wsX4_toldWord := goodIn_r _ [9, 10, 11, 12, 13, 14, 15, 4, 16, 17, 18, 19, 20, 21, 22, 23, 24, 25, 26, 27, 28, 29, 30, 31, 32, 33, 34, 35, 36, 37, 38, 39, 40, 41, 42, 43, 44, 45, 46, 47, 48, 49, 50, 51, 52, 53, 54, 55, 56, 57, 58, 59, 60, 61, 62] (by decide +kernel) (by decide +kernel)
set_option maxRecDepth 20000 in
theorem gX4_word_X4_toldWord : GoodIn wsX4_word (wsV RX4 218 RX4 yX4_toldWord wsX4_toldWord) := goodIn_app (goodIn_of _ (by decide +kernel)) ggX4_word_X4_toldWord
theorem dX4_word_0 : decode cX4_word 0 = .ok (.aload_n 0, 1) := by decide +kernel
theorem dX4_word_1 : decode cX4_word 1 = .ok (.iload_n 1, 1) := by decide +kernel
theorem dX4_word_2 : decode cX4_word 2 = .ok (.ifCond .lt 17, 3) := by decide +kernel
theorem dX4_word_5 : decode cX4_word 5 = .ok (.iload_n 2, 1) := by decide +kernel
theorem dX4_word_6 : decode cX4_word 6 = .ok (.iconst 0, 1) := by decide +kernel
theorem dX4_word_7 : decode cX4_word 7 = .ok (.bipush 12, 2) := by decide +kernel
theorem dX4_word_9 : decode cX4_word 9 = .ok (.invokestatic 143, 3) := by decide +kernel
theorem dX4_word_12 : decode cX4_word 12 = .ok (.ifCond .eq 7, 3) := by decide +kernel
theorem dX4_word_15 : decode cX4_word 15 = .ok (.iconst 0, 1) := by decide +kernel
theorem dX4_word_16 : decode cX4_word 16 = .ok (.goto 4, 3) := by decide +kernel
theorem dX4_word_19 : decode cX4_word 19 = .ok (.iconst 1, 1) := by decide +kernel
theorem dX4_word_20 : decode cX4_word 20 = .ok (.putfield 40, 3) := by decide +kernel
theorem dX4_word_23 : decode cX4_word 23 = .ok (.aload_n 0, 1) := by decide +kernel
theorem dX4_word_24 : decode cX4_word 24 = .ok (.getfield 40, 3) := by decide +kernel
theorem dX4_word_27 : decode cX4_word 27 = .ok (.ifCond .le 7, 3) := by decide +kernel
theorem dX4_word_30 : decode cX4_word 30 = .ok (.iconst 0, 1) := by decide +kernel
theorem dX4_word_31 : decode cX4_word 31 = .ok (.goto 9, 3) := by decide +kernel
theorem dX4_word_34 : decode cX4_word 34 = .ok (.aload_n 0, 1) := by decide +kernel
theorem dX4_word_35 : decode cX4_word 35 = .ok (.iload_n 1, 1) := by decide +kernel
theorem dX4_word_36 : decode cX4_word 36 = .ok (.iload_n 2, 1) := by decide +kernel
theorem dX4_word_37 : decode cX4_word 37 = .ok (.invokevirtual 218, 3) := by decide +kernel
theorem dX4_word_40 : decode cX4_word 40 = .ok (.ireturn, 1) := by decide +kernel
set_option maxRecDepth 20000 in
theorem ggX4_wouldAdd_X4_used : GoodIn wsX4_wouldAdd wsX4_used := goodIn_r _ [6, 7, 8, 9, 5, 10, 1, 123, 124, 125, 126, 127, 128, 129, 130, 131, 132, 133, 134, 135, 136, 137, 138] (by decide +kernel) (by decide +kernel)
set_option maxRecDepth 20000 in
theorem gX4_wouldAdd_X4_used : GoodIn wsX4_wouldAdd (wsV RX4 178 RX4 yX4_used wsX4_used) := goodIn_app (goodIn_of _ (by decide +kernel)) ggX4_wouldAdd_X4_used
set_option maxRecDepth 20000 in
theorem ggX4_wouldAdd_X4_ends : GoodIn wsX4_wouldAdd wsX4_ends := goodIn_r _ [14, 15, 16, 17, 5, 18, 1, 123, 124, 125, 126, 127, 128, 129, 130, 131, 132, 133, 134, 135, 136, 137, 138] (by decide +kernel) (by decide +kernel)
set_option maxRecDepth 20000 in
theorem gX4_wouldAdd_X4_ends : GoodIn wsX4_wouldAdd (wsV RX4 194 RX4 yX4_ends wsX4_ends) := goodIn_app (goodIn_of _ (by decide +kernel)) ggX4_wouldAdd_X4_ends
set_option maxRecDepth 20000 in
theorem ggX4_wouldAdd_X4_addIt : GoodIn wsX4_wouldAdd wsX4_addIt := goodIn_r _ [22, 23, 24, 25, 26, 27, 5, 28, 29, 1, 30, 31, 32, 33, 34, 35, 36, 37, 38, 39, 40, 41, 42, 7, 8, 9, 10, 43, 44, 45, 46, 47, 48, 49, 50, 51, 52, 53, 54, 55, 56, 57, 58, 59, 60, 61, 62, 63, 64, 65, 66, 67, 68, 69, 70, 71, 72, 73, 74, 75, 76, 77, 78, 79, 80, 81, 82, 83, 84, 85, 86, 87, 88, 89, 90, 91, 92, 93, 15, 16, 17, 18, 94, 95, 96, 97, 98, 99, 100, 101, 102, 103, 104, 105, 106, 107, 108, 109, 110, 111, 112, 113, 114, 115, 116, 117, 118, 119, 120, 121, 122, 123, 124, 125, 126, 127, 128, 129, 130, 131, 132, 133, 134, 135, 136, 137, 138] (by decide +kernel) (by decide +kernel)
set_option maxRecDepth 20000 in
theorem gX4_wouldAdd_X4_addIt : GoodIn wsX4_wouldAdd (wsV RX4 147 RX4 yX4_addIt wsX4_addIt) := goodIn_app (goodIn_of _ (by decide +kernel)) ggX4_wouldAdd_X4_addIt
set_option maxRecDepth 20000 in
theorem ggX4_wouldAdd_X4_bringBack : GoodIn wsX4_wouldAdd wsX4_bringBack := goodIn_r _ [122, 1, 29, 123, 124, 125, 126, 127, 128, 129, 130, 131, 132, 133, 134, 135, 136, 137, 138] (by decide +kernel) (by decide +kernel)
set_option maxRecDepth 20000 in
theorem gX4_wouldAdd_X4_bringBack : GoodIn wsX4_wouldAdd (wsV RX4 140 RX4 yX4_bringBack wsX4_bringBack) := goodIn_app (goodIn_of _ (by decide +kernel)) ggX4_wouldAdd_X4_bringBack
theorem dX4_wouldAdd_0 : decode cX4_wouldAdd 0 = .ok (.aload_n 0, 1) := by decide +kernel
theorem dX4_wouldAdd_1 : decode cX4_wouldAdd 1 = .ok (.invokevirtual 178, 3) := by decide +kernel
theorem dX4_wouldAdd_4 : decode cX4_wouldAdd 4 = .ok (.istore_n 2, 1) := by decide +kernel
theorem dX4_wouldAdd_5 : decode cX4_wouldAdd 5 = .ok (.aload_n 0, 1) := by decide +kernel
theorem dX4_wouldAdd_6 : decode cX4_wouldAdd 6 = .ok (.getfield 7, 3) := by decide +kernel
theorem dX4_wouldAdd_9 : decode cX4_wouldAdd 9 = .ok (.sipush 1360, 3) := by decide +kernel
theorem dX4_wouldAdd_12 : decode cX4_wouldAdd 12 = .ok (.iaload, 1) := by decide +kernel
theorem dX4_wouldAdd_13 : decode cX4_wouldAdd 13 = .ok (.istore_n 3, 1) := by decide +kernel
theorem dX4_wouldAdd_14 : decode cX4_wouldAdd 14 = .ok (.aload_n 0, 1) := by decide +kernel
theorem dX4_wouldAdd_15 : decode cX4_wouldAdd 15 = .ok (.invokevirtual 194, 3) := by decide +kernel
theorem dX4_wouldAdd_18 : decode cX4_wouldAdd 18 = .ok (.istore 4, 2) := by decide +kernel
theorem dX4_wouldAdd_20 : decode cX4_wouldAdd 20 = .ok (.aload_n 0, 1) := by decide +kernel
theorem dX4_wouldAdd_21 : decode cX4_wouldAdd 21 = .ok (.invokevirtual 147, 3) := by decide +kernel
theorem dX4_wouldAdd_24 : decode cX4_wouldAdd 24 = .ok (.istore 5, 2) := by decide +kernel
theorem dX4_wouldAdd_26 : decode cX4_wouldAdd 26 = .ok (.iload_n 1, 1) := by decide +kernel
theorem dX4_wouldAdd_27 : decode cX4_wouldAdd 27 = .ok (.ifCond .ne 8, 3) := by decide +kernel
theorem dX4_wouldAdd_30 : decode cX4_wouldAdd 30 = .ok (.iload 5, 2) := by decide +kernel
theorem dX4_wouldAdd_32 : decode cX4_wouldAdd 32 = .ok (.goto 4, 3) := by decide +kernel
theorem dX4_wouldAdd_35 : decode cX4_wouldAdd 35 = .ok (.iconst (-1), 1) := by decide +kernel
theorem dX4_wouldAdd_36 : decode cX4_wouldAdd 36 = .ok (.istore 6, 2) := by decide +kernel
theorem dX4_wouldAdd_38 : decode cX4_wouldAdd 38 = .ok (.iload 5, 2) := by decide +kernel
theorem dX4_wouldAdd_40 : decode cX4_wouldAdd 40 = .ok (.ifCond .ne 60, 3) := by decide +kernel
theorem dX4_wouldAdd_43 : decode cX4_wouldAdd 43 = .ok (.iload_n 1, 1) := by decide +kernel
theorem dX4_wouldAdd_44 : decode cX4_wouldAdd 44 = .ok (.ifCond .ne 8, 3) := by decide +kernel
theorem dX4_wouldAdd_47 : decode cX4_wouldAdd 47 = .ok (.iload 5, 2) := by decide +kernel
theorem dX4_wouldAdd_49 : decode cX4_wouldAdd 49 = .ok (.goto 45, 3) := by decide +kernel
theorem dX4_wouldAdd_52 : decode cX4_wouldAdd 52 = .ok (.iload_n 1, 1) := by decide +kernel
theorem dX4_wouldAdd_53 : decode cX4_wouldAdd 53 = .ok (.iconst 1, 1) := by decide +kernel
theorem dX4_wouldAdd_54 : decode cX4_wouldAdd 54 = .ok (.if_icmp .ne 12, 3) := by decide +kernel
theorem dX4_wouldAdd_57 : decode cX4_wouldAdd 57 = .ok (.aload_n 0, 1) := by decide +kernel
theorem dX4_wouldAdd_58 : decode cX4_wouldAdd 58 = .ok (.invokevirtual 178, 3) := by decide +kernel
theorem dX4_wouldAdd_61 : decode cX4_wouldAdd 61 = .ok (.iload_n 2, 1) := by decide +kernel
theorem dX4_wouldAdd_62 : decode cX4_wouldAdd 62 = .ok (.isub, 1) := by decide +kernel
theorem dX4_wouldAdd_63 : decode cX4_wouldAdd 63 = .ok (.goto 31, 3) := by decide +kernel
theorem dX4_wouldAdd_66 : decode cX4_wouldAdd 66 = .ok (.iload_n 1, 1) := by decide +kernel
theorem dX4_wouldAdd_67 : decode cX4_wouldAdd 67 = .ok (.iconst 2, 1) := by decide +kernel
theorem dX4_wouldAdd_68 : decode cX4_wouldAdd 68 = .ok (.if_icmp .ne 16, 3) := by decide +kernel
theorem dX4_wouldAdd_71 : decode cX4_wouldAdd 71 = .ok (.aload_n 0, 1) := by decide +kernel
theorem dX4_wouldAdd_72 : decode cX4_wouldAdd 72 = .ok (.getfield 7, 3) := by decide +kernel
theorem dX4_wouldAdd_75 : decode cX4_wouldAdd 75 = .ok (.sipush 1360, 3) := by decide +kernel
theorem dX4_wouldAdd_78 : decode cX4_wouldAdd 78 = .ok (.iaload, 1) := by decide +kernel
theorem dX4_wouldAdd_79 : decode cX4_wouldAdd 79 = .ok (.iload_n 3, 1) := by decide +kernel
theorem dX4_wouldAdd_80 : decode cX4_wouldAdd 80 = .ok (.isub, 1) := by decide +kernel
theorem dX4_wouldAdd_81 : decode cX4_wouldAdd 81 = .ok (.goto 13, 3) := by decide +kernel
theorem dX4_wouldAdd_84 : decode cX4_wouldAdd 84 = .ok (.aload_n 0, 1) := by decide +kernel
theorem dX4_wouldAdd_85 : decode cX4_wouldAdd 85 = .ok (.invokevirtual 194, 3) := by decide +kernel
theorem dX4_wouldAdd_88 : decode cX4_wouldAdd 88 = .ok (.iload 4, 2) := by decide +kernel
theorem dX4_wouldAdd_90 : decode cX4_wouldAdd 90 = .ok (.isub, 1) := by decide +kernel
theorem dX4_wouldAdd_91 : decode cX4_wouldAdd 91 = .ok (.bipush 100, 2) := by decide +kernel
theorem dX4_wouldAdd_93 : decode cX4_wouldAdd 93 = .ok (.iadd, 1) := by decide +kernel
theorem dX4_wouldAdd_94 : decode cX4_wouldAdd 94 = .ok (.istore 6, 2) := by decide +kernel
theorem dX4_wouldAdd_96 : decode cX4_wouldAdd 96 = .ok (.aload_n 0, 1) := by decide +kernel
theorem dX4_wouldAdd_97 : decode cX4_wouldAdd 97 = .ok (.invokevirtual 140, 3) := by decide +kernel
theorem dX4_wouldAdd_100 : decode cX4_wouldAdd 100 = .ok (.iload 6, 2) := by decide +kernel
theorem dX4_wouldAdd_102 : decode cX4_wouldAdd 102 = .ok (.ireturn, 1) := by decide +kernel
set_option maxRecDepth 20000 in
theorem ggX4_ifAdded_X4_in : GoodIn wsX4_ifAdded wsX4_in := goodIn_r _ [5] (by decide +kernel) (by decide +kernel)
set_option maxRecDepth 20000 in
theorem gX4_ifAdded_X4_in : GoodIn wsX4_ifAdded (va_wsS RX4 143 yX4_in wsX4_in) := goodIn_app (goodIn_of _ (by decide +kernel)) ggX4_ifAdded_X4_in
set_option maxRecDepth 20000 in
theorem ggX4_ifAdded_X4_wouldAdd : GoodIn wsX4_ifAdded wsX4_wouldAdd := goodIn_r _ [9, 10, 11, 12, 13, 4, 14, 15, 16, 17, 18, 19, 20, 21, 22, 23, 24, 25, 26, 27, 28, 29, 30, 31, 32, 33, 34, 35, 36, 37, 38, 39, 40, 41, 42, 43, 44, 45, 46, 47, 48, 49, 50, 51, 52, 53, 54, 55, 56, 57, 58, 59, 60, 61, 62, 63, 64, 65, 66, 67, 68, 69, 70, 71, 72, 73, 74, 75, 76, 77, 78, 79, 80, 81, 82, 83, 84, 85, 86, 87, 88, 89, 90, 91, 92, 93, 94, 95, 96, 97, 98, 99, 100, 101, 102, 103, 104, 105, 106, 107, 108, 109, 110, 111, 112, 113, 114, 115, 116, 117, 118, 119, 120, 121, 122, 123, 124, 125, 126, 127, 128, 129, 130, 131, 132, 133, 134, 135, 136, 137, 138, 139, 140, 141, 142, 143, 144, 145, 146] (by decide +kernel) (by decide +kernel)
set_option maxRecDepth 20000 in
theorem gX4_ifAdded_X4_wouldAdd : GoodIn wsX4_ifAdded (wsV RX4 221 RX4 yX4_wouldAdd wsX4_wouldAdd) := goodIn_app (goodIn_of _ (by decide +kernel)) ggX4_ifAdded_X4_wouldAdd
theorem dX4_ifAdded_0 : decode cX4_ifAdded 0 = .ok (.aload_n 0, 1) := by decide +kernel
theorem dX4_ifAdded_1 : decode cX4_ifAdded 1 = .ok (.iload_n 1, 1) := by decide +kernel
theorem dX4_ifAdded_2 : decode cX4_ifAdded 2 = .ok (.iconst 0, 1) := by decide +kernel
theorem dX4_ifAdded_3 : decode cX4_ifAdded 3 = .ok (.iconst 3, 1) := by decide +kernel
theorem dX4_ifAdded_4 : decode cX4_ifAdded 4 = .ok (.invokestatic 143, 3) := by decide +kernel
theorem dX4_ifAdded_7 : decode cX4_ifAdded 7 = .ok (.ifCond .eq 7, 3) := by decide +kernel
theorem dX4_ifAdded_10 : decode cX4_ifAdded 10 = .ok (.iconst 0, 1) := by decide +kernel
theorem dX4_ifAdded_11 : decode cX4_ifAdded 11 = .ok (.goto 4, 3) := by decide +kernel
theorem dX4_ifAdded_14 : decode cX4_ifAdded 14 = .ok (.iconst 1, 1) := by decide +kernel
theorem dX4_ifAdded_15 : decode cX4_ifAdded 15 = .ok (.putfield 40, 3) := by decide +kernel
theorem dX4_ifAdded_18 : decode cX4_ifAdded 18 = .ok (.aload_n 0, 1) := by decide +kernel
theorem dX4_ifAdded_19 : decode cX4_ifAdded 19 = .ok (.getfield 40, 3) := by decide +kernel
theorem dX4_ifAdded_22 : decode cX4_ifAdded 22 = .ok (.ifCond .le 7, 3) := by decide +kernel
theorem dX4_ifAdded_25 : decode cX4_ifAdded 25 = .ok (.iconst 0, 1) := by decide +kernel
theorem dX4_ifAdded_26 : decode cX4_ifAdded 26 = .ok (.goto 8, 3) := by decide +kernel
theorem dX4_ifAdded_29 : decode cX4_ifAdded 29 = .ok (.aload_n 0, 1) := by decide +kernel
theorem dX4_ifAdded_30 : decode cX4_ifAdded 30 = .ok (.iload_n 1, 1) := by decide +kernel
theorem dX4_ifAdded_31 : decode cX4_ifAdded 31 = .ok (.invokevirtual 221, 3) := by decide +kernel
theorem dX4_ifAdded_34 : decode cX4_ifAdded 34 = .ok (.ireturn, 1) := by decide +kernel
set_option maxRecDepth 20000 in
theorem ggX4_wouldPack_X4_putAside : GoodIn wsX4_wouldPack wsX4_putAside := goodIn_r _ [5, 6, 7, 135, 136, 137, 138, 139, 140, 141, 142, 143, 144, 145, 146, 147, 148, 149, 150] (by decide +kernel) (by decide +kernel)
set_option maxRecDepth 20000 in
theorem gX4_wouldPack_X4_putAside : GoodIn wsX4_wouldPack (wsV RX4 130 RX4 yX4_putAside wsX4_putAside) := goodIn_app (goodIn_of _ (by decide +kernel)) ggX4_wouldPack_X4_putAside
set_option maxRecDepth 20000 in
theorem ggX4_wouldPack_X4_packIt : GoodIn wsX4_wouldPack wsX4_packIt := goodIn_r _ [11, 12, 13, 14, 15, 16, 17, 18, 19, 4, 20, 7, 21, 22, 23, 24, 25, 26, 27, 28, 29, 30, 31, 32, 33, 34, 35, 36, 37, 38, 39, 40, 41, 42, 43, 44, 45, 46, 47, 48, 49, 50, 51, 52, 53, 54, 55, 56, 57, 58, 59, 60, 61, 62, 63, 64, 65, 66, 67, 68, 69, 70, 71, 72, 73, 74, 75, 76, 77, 78, 79, 80, 81, 82, 83, 84, 85, 86, 87, 88, 89, 90, 91, 92, 93, 94, 95, 96, 97, 98, 99, 100, 101, 102, 103, 104, 105, 106, 107, 108, 109, 110, 111, 112, 113, 114, 115, 116, 117, 118, 119, 120, 121, 122, 123, 124, 125, 126, 135, 136, 137, 138, 139, 140, 141, 142, 143, 144, 145, 146, 147, 148, 149, 150] (by decide +kernel) (by decide +kernel)
set_option maxRecDepth 20000 in
theorem gX4_wouldPack_X4_packIt : GoodIn wsX4_wouldPack (wsV RX4 181 RX4 yX4_packIt wsX4_packIt) := goodIn_app (goodIn_of _ (by decide +kernel)) ggX4_wouldPack_X4_packIt
set_option maxRecDepth 20000 in
theorem ggX4_wouldPack_X4_used : GoodIn wsX4_wouldPack wsX4_used := goodIn_r _ [130, 38, 39, 40, 4, 41, 7, 135, 136, 137, 138, 139, 140, 141, 142, 143, 144, 145, 146, 147, 148, 149, 150] (by decide +kernel) (by decide +kernel)
set_option maxRecDepth 20000 in
theorem gX4_wouldPack_X4_used : GoodIn wsX4_wouldPack (wsV RX4 178 RX4 yX4_used wsX4_used) := goodIn_app (goodIn_of _ (by decide +kernel)) ggX4_wouldPack_X4_used
set_option maxRecDepth 20000 in
theorem ggX4_wouldPack_X4_bringBack : GoodIn wsX4_wouldPack wsX4_bringBack := goodIn_r _ [134, 7, 6, 135, 136, 137, 138, 139, 140, 141, 142, 143, 144, 145, 146, 147, 148, 149, 150] (by decide +kernel) (by decide +kernel)
set_option maxRecDepth 20000 in
theorem gX4_wouldPack_X4_bringBack : GoodIn wsX4_wouldPack (wsV RX4 140 RX4 yX4_bringBack wsX4_bringBack) := goodIn_app (goodIn_of _ (by decide +kernel)) ggX4_wouldPack_X4_bringBack
theorem dX4_wouldPack_0 : decode cX4_wouldPack 0 = .ok (.aload_n 0, 1) := by decide +kernel
theorem dX4_wouldPack_1 : decode cX4_wouldPack 1 = .ok (.invokevirtual 130, 3) := by decide +kernel
theorem dX4_wouldPack_4 : decode cX4_wouldPack 4 = .ok (.aload_n 0, 1) := by decide +kernel
theorem dX4_wouldPack_5 : decode cX4_wouldPack 5 = .ok (.invokevirtual 181, 3) := by decide +kernel
theorem dX4_wouldPack_8 : decode cX4_wouldPack 8 = .ok (.ifCond .eq 10, 3) := by decide +kernel
theorem dX4_wouldPack_11 : decode cX4_wouldPack 11 = .ok (.aload_n 0, 1) := by decide +kernel
theorem dX4_wouldPack_12 : decode cX4_wouldPack 12 = .ok (.invokevirtual 178, 3) := by decide +kernel
theorem dX4_wouldPack_15 : decode cX4_wouldPack 15 = .ok (.goto 4, 3) := by decide +kernel
theorem dX4_wouldPack_18 : decode cX4_wouldPack 18 = .ok (.iconst (-1), 1) := by decide +kernel
theorem dX4_wouldPack_19 : decode cX4_wouldPack 19 = .ok (.istore_n 1, 1) := by decide +kernel
theorem dX4_wouldPack_20 : decode cX4_wouldPack 20 = .ok (.aload_n 0, 1) := by decide +kernel
theorem dX4_wouldPack_21 : decode cX4_wouldPack 21 = .ok (.invokevirtual 140, 3) := by decide +kernel
theorem dX4_wouldPack_24 : decode cX4_wouldPack 24 = .ok (.iload_n 1, 1) := by decide +kernel
theorem dX4_wouldPack_25 : decode cX4_wouldPack 25 = .ok (.ireturn, 1) := by decide +kernel
set_option maxRecDepth 20000 in
theorem ggX4_ifPacked_X4_wouldPack : GoodIn wsX4_ifPacked wsX4_wouldPack := goodIn_r _ [6, 7, 8, 9, 5, 10, 11, 12, 13, 14, 15, 16, 17, 18, 19, 20, 21, 22, 23, 24, 25, 26, 27, 28, 29, 30, 31, 32, 33, 34, 35, 36, 37, 38, 39, 40, 41, 42, 43, 44, 45, 46, 47, 48, 49, 50, 51, 52, 53, 54, 55, 56, 57, 58, 59, 60, 61, 62, 63, 64, 65, 66, 67, 68, 69, 70, 71, 72, 73, 74, 75, 76, 77, 78, 79, 80, 81, 82, 83, 84, 85, 86, 87, 88, 89, 90, 91, 92, 93, 94, 95, 96, 97, 98, 99, 100, 101, 102, 103, 104, 105, 106, 107, 108, 109, 110, 111, 112, 113, 114, 115, 116, 117, 118, 119, 120, 121, 122, 123, 124, 125, 126, 127, 128, 129, 130, 131, 132, 133, 134, 135, 136, 137, 138, 139, 140, 141, 142, 143, 144, 145, 146, 147, 148, 149, 150, 151, 152, 153, 154, 155] (by decide +kernel) (by decide +kernel)
set_option maxRecDepth 20000 in
theorem gX4_ifPacked_X4_wouldPack : GoodIn wsX4_ifPacked (wsV RX4 224 RX4 yX4_wouldPack wsX4_wouldPack) := goodIn_app (goodIn_of _ (by decide +kernel)) ggX4_ifPacked_X4_wouldPack
theorem dX4_ifPacked_0 : decode cX4_ifPacked 0 = .ok (.aload_n 0, 1) := by decide +kernel
theorem dX4_ifPacked_1 : decode cX4_ifPacked 1 = .ok (.iconst 0, 1) := by decide +kernel
theorem dX4_ifPacked_2 : decode cX4_ifPacked 2 = .ok (.putfield 40, 3) := by decide +kernel
theorem dX4_ifPacked_5 : decode cX4_ifPacked 5 = .ok (.aload_n 0, 1) := by decide +kernel
theorem dX4_ifPacked_6 : decode cX4_ifPacked 6 = .ok (.invokevirtual 224, 3) := by decide +kernel
theorem dX4_ifPacked_9 : decode cX4_ifPacked 9 = .ok (.ireturn, 1) := by decide +kernel
set_option maxRecDepth 20000 in
theorem ggX4_full_X4_used : GoodIn wsX4_full wsX4_used := goodIn_r _ [5, 6, 7, 8, 4, 9, 10, 15, 16, 17, 18, 19, 20, 21, 22, 23, 24, 25, 26, 27, 28, 29, 30] (by decide +kernel) (by decide +kernel)
set_option maxRecDepth 20000 in
theorem gX4_full_X4_used : GoodIn wsX4_full (wsV RX4 178 RX4 yX4_used wsX4_used) := goodIn_app (goodIn_of _ (by decide +kernel)) ggX4_full_X4_used
set_option maxRecDepth 20000 in
theorem ggX4_full_X4_greatest : GoodIn wsX4_full wsX4_greatest := goodIn_r _ [14, 6, 7, 8, 4, 9, 10, 15, 16, 17, 18, 19, 20, 21, 22, 23, 24, 25, 26, 27, 28, 29, 30] (by decide +kernel) (by decide +kernel)
set_option maxRecDepth 20000 in
theorem gX4_full_X4_greatest : GoodIn wsX4_full (wsV RX4 200 RX4 yX4_greatest wsX4_greatest) := goodIn_app (goodIn_of _ (by decide +kernel)) ggX4_full_X4_greatest
theorem dX4_full_0 : decode cX4_full 0 = .ok (.aload_n 0, 1) := by decide +kernel
theorem dX4_full_1 : decode cX4_full 1 = .ok (.invokevirtual 178, 3) := by decide +kernel
theorem dX4_full_4 : decode cX4_full 4 = .ok (.i2d, 1) := by decide +kernel
theorem dX4_full_5 : decode cX4_full 5 = .ok (.aload_n 0, 1) := by decide +kernel
theorem dX4_full_6 : decode cX4_full 6 = .ok (.invokevirtual 200, 3) := by decide +kernel
theorem dX4_full_9 : decode cX4_full 9 = .ok (.iconst 1, 1) := by decide +kernel
theorem dX4_full_10 : decode cX4_full 10 = .ok (.iadd, 1) := by decide +kernel
theorem dX4_full_11 : decode cX4_full 11 = .ok (.i2d, 1) := by decide +kernel
theorem dX4_full_12 : decode cX4_full 12 = .ok (.ddiv, 1) := by decide +kernel
theorem dX4_full_13 : decode cX4_full 13 = .ok (.dreturn, 1) := by decide +kernel
set_option maxRecDepth 20000 in
theorem ggX4_fullness_X4_full : GoodIn wsX4_fullness wsX4_full := goodIn_r _ [6, 7, 8, 9, 5, 10, 11, 12, 13, 14, 15, 16, 17, 18, 19, 20, 21, 22, 23, 24, 25, 26, 27, 28, 29, 30, 31, 32, 33, 34, 35] (by decide +kernel) (by decide +kernel)
set_option maxRecDepth 20000 in
theorem gX4_fullness_X4_full : GoodIn wsX4_fullness (wsV RX4 227 RX4 yX4_full wsX4_full) := goodIn_app (goodIn_of _ (by decide +kernel)) ggX4_fullness_X4_full
theorem dX4_fullness_0 : decode cX4_fullness 0 = .ok (.aload_n 0, 1) := by decide +kernel
theorem dX4_fullness_1 : decode cX4_fullness 1 = .ok (.iconst 0, 1) := by decide +kernel
theorem dX4_fullness_2 : decode cX4_fullness 2 = .ok (.putfield 40, 3) := by decide +kernel
theorem dX4_fullness_5 : decode cX4_fullness 5 = .ok (.aload_n 0, 1) := by decide +kernel
theorem dX4_fullness_6 : decode cX4_fullness 6 = .ok (.invokevirtual 227, 3) := by decide +kernel
theorem dX4_fullness_9 : decode cX4_fullness 9 = .ok (.dreturn, 1) := by decide +kernel
theorem dX4_bitsOf_0 : decode cX4_bitsOf 0 = .ok (.dload_n 0, 1) := by decide +kernel
theorem dX4_bitsOf_1 : decode cX4_bitsOf 1 = .ok (.dconst 0, 1) := by decide +kernel
theorem dX4_bitsOf_2 : decode cX4_bitsOf 2 = .ok (.dcmp .l, 1) := by decide +kernel
theorem dX4_bitsOf_3 : decode cX4_bitsOf 3 = .ok (.ifCond .ne 5, 3) := by decide +kernel
theorem dX4_bitsOf_6 : decode cX4_bitsOf 6 = .ok (.lconst 0, 1) := by decide +kernel
theorem dX4_bitsOf_7 : decode cX4_bitsOf 7 = .ok (.lreturn, 1) := by decide +kernel
theorem dX4_bitsOf_8 : decode cX4_bitsOf 8 = .ok (.dload_n 0, 1) := by decide +kernel
theorem dX4_bitsOf_9 : decode cX4_bitsOf 9 = .ok (.dstore_n 2, 1) := by decide +kernel
theorem dX4_bitsOf_10 : decode cX4_bitsOf 10 = .ok (.ldc2_w 231, 3) := by decide +kernel
theorem dX4_bitsOf_13 : decode cX4_bitsOf 13 = .ok (.lstore 4, 2) := by decide +kernel
theorem dX4_bitsOf_15 : decode cX4_bitsOf 15 = .ok (.dload_n 2, 1) := by decide +kernel
theorem dX4_bitsOf_16 : decode cX4_bitsOf 16 = .ok (.ldc2_w 233, 3) := by decide +kernel
theorem dX4_bitsOf_19 : decode cX4_bitsOf 19 = .ok (.dcmp .l, 1) := by decide +kernel
theorem dX4_bitsOf_20 : decode cX4_bitsOf 20 = .ok (.ifCond .lt 18, 3) := by decide +kernel
theorem dX4_bitsOf_23 : decode cX4_bitsOf 23 = .ok (.dload_n 2, 1) := by decide +kernel
