theorem dX4_in_11 : decode cX4_in 11 = .ok (.goto 4, 3) := by decide +kernel
theorem dX4_in_14 : decode cX4_in 14 = .ok (.iconst 0, 1) := by decide +kernel
theorem dX4_in_15 : decode cX4_in 15 = .ok (.ireturn, 1) := by decide +kernel
theorem dX4_isUsed_0 : decode cX4_isUsed 0 = .ok (.aload_n 0, 1) := by decide +kernel
theorem dX4_isUsed_1 : decode cX4_isUsed 1 = .ok (.getfield 7, 3) := by decide +kernel
theorem dX4_isUsed_4 : decode cX4_isUsed 4 = .ok (.iconst 0, 1) := by decide +kernel
theorem dX4_isUsed_5 : decode cX4_isUsed 5 = .ok (.iload_n 1, 1) := by decide +kernel
theorem dX4_isUsed_6 : decode cX4_isUsed 6 = .ok (.iadd, 1) := by decide +kernel
theorem dX4_isUsed_7 : decode cX4_isUsed 7 = .ok (.iaload, 1) := by decide +kernel
theorem dX4_isUsed_8 : decode cX4_isUsed 8 = .ok (.ifCond .eq 7, 3) := by decide +kernel
theorem dX4_isUsed_11 : decode cX4_isUsed 11 = .ok (.iconst 1, 1) := by decide +kernel
theorem dX4_isUsed_12 : decode cX4_isUsed 12 = .ok (.goto 4, 3) := by decide +kernel
theorem dX4_isUsed_15 : decode cX4_isUsed 15 = .ok (.iconst 0, 1) := by decide +kernel
theorem dX4_isUsed_16 : decode cX4_isUsed 16 = .ok (.ireturn, 1) := by decide +kernel
theorem dX4_isLeaf_0 : decode cX4_isLeaf 0 = .ok (.aload_n 0, 1) := by decide +kernel
theorem dX4_isLeaf_1 : decode cX4_isLeaf 1 = .ok (.getfield 7, 3) := by decide +kernel
theorem dX4_isLeaf_4 : decode cX4_isLeaf 4 = .ok (.iconst 0, 1) := by decide +kernel
theorem dX4_isLeaf_5 : decode cX4_isLeaf 5 = .ok (.iload_n 1, 1) := by decide +kernel
theorem dX4_isLeaf_6 : decode cX4_isLeaf 6 = .ok (.iadd, 1) := by decide +kernel
theorem dX4_isLeaf_7 : decode cX4_isLeaf 7 = .ok (.iaload, 1) := by decide +kernel
theorem dX4_isLeaf_8 : decode cX4_isLeaf 8 = .ok (.iconst 2, 1) := by decide +kernel
theorem dX4_isLeaf_9 : decode cX4_isLeaf 9 = .ok (.if_icmp .ne 7, 3) := by decide +kernel
theorem dX4_isLeaf_12 : decode cX4_isLeaf 12 = .ok (.iconst 1, 1) := by decide +kernel
theorem dX4_isLeaf_13 : decode cX4_isLeaf 13 = .ok (.goto 4, 3) := by decide +kernel
theorem dX4_isLeaf_16 : decode cX4_isLeaf 16 = .ok (.iconst 0, 1) := by decide +kernel
theorem dX4_isLeaf_17 : decode cX4_isLeaf 17 = .ok (.ireturn, 1) := by decide +kernel
theorem dX4_offset_0 : decode cX4_offset 0 = .ok (.aload_n 0, 1) := by decide +kernel
theorem dX4_offset_1 : decode cX4_offset 1 = .ok (.getfield 7, 3) := by decide +kernel
theorem dX4_offset_4 : decode cX4_offset 4 = .ok (.sipush 480, 3) := by decide +kernel
theorem dX4_offset_7 : decode cX4_offset 7 = .ok (.iload_n 1, 1) := by decide +kernel
theorem dX4_offset_8 : decode cX4_offset 8 = .ok (.iadd, 1) := by decide +kernel
theorem dX4_offset_9 : decode cX4_offset 9 = .ok (.iaload, 1) := by decide +kernel
theorem dX4_offset_10 : decode cX4_offset 10 = .ok (.ireturn, 1) := by decide +kernel
theorem dX4_free_0 : decode cX4_free 0 = .ok (.aload_n 0, 1) := by decide +kernel
theorem dX4_free_1 : decode cX4_free 1 = .ok (.getfield 7, 3) := by decide +kernel
theorem dX4_free_4 : decode cX4_free 4 = .ok (.iconst 0, 1) := by decide +kernel
theorem dX4_free_5 : decode cX4_free 5 = .ok (.iload_n 1, 1) := by decide +kernel
theorem dX4_free_6 : decode cX4_free 6 = .ok (.iadd, 1) := by decide +kernel
theorem dX4_free_7 : decode cX4_free 7 = .ok (.iconst 0, 1) := by decide +kernel
theorem dX4_free_8 : decode cX4_free 8 = .ok (.iastore, 1) := by decide +kernel
theorem dX4_free_9 : decode cX4_free 9 = .ok (.aload_n 0, 1) := by decide +kernel
theorem dX4_free_10 : decode cX4_free 10 = .ok (.getfield 7, 3) := by decide +kernel
theorem dX4_free_13 : decode cX4_free 13 = .ok (.sipush 160, 3) := by decide +kernel
theorem dX4_free_16 : decode cX4_free 16 = .ok (.iload_n 1, 1) := by decide +kernel
theorem dX4_free_17 : decode cX4_free 17 = .ok (.iadd, 1) := by decide +kernel
theorem dX4_free_18 : decode cX4_free 18 = .ok (.iconst (-1), 1) := by decide +kernel
theorem dX4_free_19 : decode cX4_free 19 = .ok (.iastore, 1) := by decide +kernel
theorem dX4_free_20 : decode cX4_free 20 = .ok (.aload_n 0, 1) := by decide +kernel
theorem dX4_free_21 : decode cX4_free 21 = .ok (.getfield 7, 3) := by decide +kernel
theorem dX4_free_24 : decode cX4_free 24 = .ok (.sipush 320, 3) := by decide +kernel
theorem dX4_free_27 : decode cX4_free 27 = .ok (.iload_n 1, 1) := by decide +kernel
theorem dX4_free_28 : decode cX4_free 28 = .ok (.iadd, 1) := by decide +kernel
theorem dX4_free_29 : decode cX4_free 29 = .ok (.iconst (-1), 1) := by decide +kernel
theorem dX4_free_30 : decode cX4_free 30 = .ok (.iastore, 1) := by decide +kernel
theorem dX4_free_31 : decode cX4_free 31 = .ok (.aload_n 0, 1) := by decide +kernel
theorem dX4_free_32 : decode cX4_free 32 = .ok (.getfield 7, 3) := by decide +kernel
theorem dX4_free_35 : decode cX4_free 35 = .ok (.sipush 480, 3) := by decide +kernel
theorem dX4_free_38 : decode cX4_free 38 = .ok (.iload_n 1, 1) := by decide +kernel
theorem dX4_free_39 : decode cX4_free 39 = .ok (.iadd, 1) := by decide +kernel
theorem dX4_free_40 : decode cX4_free 40 = .ok (.iconst 0, 1) := by decide +kernel
theorem dX4_free_41 : decode cX4_free 41 = .ok (.iastore, 1) := by decide +kernel
theorem dX4_free_42 : decode cX4_free 42 = .ok (.aload_n 0, 1) := by decide +kernel
theorem dX4_free_43 : decode cX4_free 43 = .ok (.getfield 7, 3) := by decide +kernel
theorem dX4_free_46 : decode cX4_free 46 = .ok (.sipush 640, 3) := by decide +kernel
theorem dX4_free_49 : decode cX4_free 49 = .ok (.iload_n 1, 1) := by decide +kernel
theorem dX4_free_50 : decode cX4_free 50 = .ok (.iadd, 1) := by decide +kernel
theorem dX4_free_51 : decode cX4_free 51 = .ok (.iconst (-1), 1) := by decide +kernel
theorem dX4_free_52 : decode cX4_free 52 = .ok (.iastore, 1) := by decide +kernel
theorem dX4_free_53 : decode cX4_free 53 = .ok (.return_, 1) := by decide +kernel
set_option maxRecDepth 20000 in
theorem ggX4_clearTable_X4_free : GoodIn wsX4_clearTable wsX4_free := goodIn_r _ [6, 1, 7, 8, 9, 10, 11, 12, 13, 14, 15, 16, 17, 18, 19, 20, 21, 22] (by decide +kernel) (by decide +kernel)
set_option maxRecDepth 20000 in
theorem gX4_clearTable_X4_free : GoodIn wsX4_clearTable (wsV RX4 44 RX4 yX4_free wsX4_free) := goodIn_app (goodIn_of _ (by decide +kernel)) ggX4_clearTable_X4_free
theorem dX4_clearTable_0 : decode cX4_clearTable 0 = .ok (.iconst 0, 1) := by decide +kernel
theorem dX4_clearTable_1 : decode cX4_clearTable 1 = .ok (.istore_n 1, 1) := by decide +kernel
theorem dX4_clearTable_2 : decode cX4_clearTable 2 = .ok (.iload_n 1, 1) := by decide +kernel
theorem dX4_clearTable_3 : decode cX4_clearTable 3 = .ok (.sipush 160, 3) := by decide +kernel
theorem dX4_clearTable_6 : decode cX4_clearTable 6 = .ok (.if_icmp .ge 14, 3) := by decide +kernel
theorem dX4_clearTable_9 : decode cX4_clearTable 9 = .ok (.aload_n 0, 1) := by decide +kernel
theorem dX4_clearTable_10 : decode cX4_clearTable 10 = .ok (.iload_n 1, 1) := by decide +kernel
theorem dX4_clearTable_11 : decode cX4_clearTable 11 = .ok (.invokevirtual 44, 3) := by decide +kernel
theorem dX4_clearTable_14 : decode cX4_clearTable 14 = .ok (.iinc 1 1, 3) := by decide +kernel
theorem dX4_clearTable_17 : decode cX4_clearTable 17 = .ok (.goto (-15), 3) := by decide +kernel
theorem dX4_clearTable_20 : decode cX4_clearTable 20 = .ok (.aload_n 0, 1) := by decide +kernel
theorem dX4_clearTable_21 : decode cX4_clearTable 21 = .ok (.getfield 7, 3) := by decide +kernel
theorem dX4_clearTable_24 : decode cX4_clearTable 24 = .ok (.iconst 0, 1) := by decide +kernel
theorem dX4_clearTable_25 : decode cX4_clearTable 25 = .ok (.iconst 1, 1) := by decide +kernel
theorem dX4_clearTable_26 : decode cX4_clearTable 26 = .ok (.iastore, 1) := by decide +kernel
theorem dX4_clearTable_27 : decode cX4_clearTable 27 = .ok (.sipush 800, 3) := by decide +kernel
theorem dX4_clearTable_30 : decode cX4_clearTable 30 = .ok (.istore_n 1, 1) := by decide +kernel
theorem dX4_clearTable_31 : decode cX4_clearTable 31 = .ok (.iload_n 1, 1) := by decide +kernel
theorem dX4_clearTable_32 : decode cX4_clearTable 32 = .ok (.sipush 1360, 3) := by decide +kernel
theorem dX4_clearTable_35 : decode cX4_clearTable 35 = .ok (.if_icmp .ge 16, 3) := by decide +kernel
theorem dX4_clearTable_38 : decode cX4_clearTable 38 = .ok (.aload_n 0, 1) := by decide +kernel
theorem dX4_clearTable_39 : decode cX4_clearTable 39 = .ok (.getfield 7, 3) := by decide +kernel
theorem dX4_clearTable_42 : decode cX4_clearTable 42 = .ok (.iload_n 1, 1) := by decide +kernel
theorem dX4_clearTable_43 : decode cX4_clearTable 43 = .ok (.iconst 0, 1) := by decide +kernel
theorem dX4_clearTable_44 : decode cX4_clearTable 44 = .ok (.iastore, 1) := by decide +kernel
theorem dX4_clearTable_45 : decode cX4_clearTable 45 = .ok (.iinc 1 1, 3) := by decide +kernel
theorem dX4_clearTable_48 : decode cX4_clearTable 48 = .ok (.goto (-17), 3) := by decide +kernel
theorem dX4_clearTable_51 : decode cX4_clearTable 51 = .ok (.return_, 1) := by decide +kernel
theorem dX4_save_0 : decode cX4_save 0 = .ok (.aload_n 0, 1) := by decide +kernel
theorem dX4_save_1 : decode cX4_save 1 = .ok (.getfield 48, 3) := by decide +kernel
theorem dX4_save_4 : decode cX4_save 4 = .ok (.bipush 6, 2) := by decide +kernel
theorem dX4_save_6 : decode cX4_save 6 = .ok (.if_icmp .ne 44, 3) := by decide +kernel
theorem dX4_save_9 : decode cX4_save 9 = .ok (.iconst 0, 1) := by decide +kernel
theorem dX4_save_10 : decode cX4_save 10 = .ok (.istore_n 1, 1) := by decide +kernel
theorem dX4_save_11 : decode cX4_save 11 = .ok (.iload_n 1, 1) := by decide +kernel
theorem dX4_save_12 : decode cX4_save 12 = .ok (.sipush 6805, 3) := by decide +kernel
theorem dX4_save_15 : decode cX4_save 15 = .ok (.if_icmp .ge 25, 3) := by decide +kernel
theorem dX4_save_18 : decode cX4_save 18 = .ok (.aload_n 0, 1) := by decide +kernel
theorem dX4_save_19 : decode cX4_save 19 = .ok (.getfield 13, 3) := by decide +kernel
theorem dX4_save_22 : decode cX4_save 22 = .ok (.iload_n 1, 1) := by decide +kernel
theorem dX4_save_23 : decode cX4_save 23 = .ok (.aload_n 0, 1) := by decide +kernel
theorem dX4_save_24 : decode cX4_save 24 = .ok (.getfield 13, 3) := by decide +kernel
theorem dX4_save_27 : decode cX4_save 27 = .ok (.iload_n 1, 1) := by decide +kernel
theorem dX4_save_28 : decode cX4_save 28 = .ok (.sipush 1361, 3) := by decide +kernel
theorem dX4_save_31 : decode cX4_save 31 = .ok (.iadd, 1) := by decide +kernel
theorem dX4_save_32 : decode cX4_save 32 = .ok (.iaload, 1) := by decide +kernel
theorem dX4_save_33 : decode cX4_save 33 = .ok (.iastore, 1) := by decide +kernel
theorem dX4_save_34 : decode cX4_save 34 = .ok (.iinc 1 1, 3) := by decide +kernel
theorem dX4_save_37 : decode cX4_save 37 = .ok (.goto (-26), 3) := by decide +kernel
theorem dX4_save_40 : decode cX4_save 40 = .ok (.aload_n 0, 1) := by decide +kernel
theorem dX4_save_41 : decode cX4_save 41 = .ok (.dup, 1) := by decide +kernel
theorem dX4_save_42 : decode cX4_save 42 = .ok (.getfield 48, 3) := by decide +kernel
theorem dX4_save_45 : decode cX4_save 45 = .ok (.iconst 1, 1) := by decide +kernel
theorem dX4_save_46 : decode cX4_save 46 = .ok (.isub, 1) := by decide +kernel
theorem dX4_save_47 : decode cX4_save 47 = .ok (.putfield 48, 3) := by decide +kernel
theorem dX4_save_50 : decode cX4_save 50 = .ok (.iconst 0, 1) := by decide +kernel
theorem dX4_save_51 : decode cX4_save 51 = .ok (.istore_n 1, 1) := by decide +kernel
theorem dX4_save_52 : decode cX4_save 52 = .ok (.iload_n 1, 1) := by decide +kernel
theorem dX4_save_53 : decode cX4_save 53 = .ok (.sipush 1361, 3) := by decide +kernel
theorem dX4_save_56 : decode cX4_save 56 = .ok (.if_icmp .ge 30, 3) := by decide +kernel
theorem dX4_save_59 : decode cX4_save 59 = .ok (.aload_n 0, 1) := by decide +kernel
theorem dX4_save_60 : decode cX4_save 60 = .ok (.getfield 13, 3) := by decide +kernel
theorem dX4_save_63 : decode cX4_save 63 = .ok (.aload_n 0, 1) := by decide +kernel
theorem dX4_save_64 : decode cX4_save 64 = .ok (.getfield 48, 3) := by decide +kernel
theorem dX4_save_67 : decode cX4_save 67 = .ok (.sipush 1361, 3) := by decide +kernel
theorem dX4_save_70 : decode cX4_save 70 = .ok (.imul, 1) := by decide +kernel
theorem dX4_save_71 : decode cX4_save 71 = .ok (.iload_n 1, 1) := by decide +kernel
theorem dX4_save_72 : decode cX4_save 72 = .ok (.iadd, 1) := by decide +kernel
theorem dX4_save_73 : decode cX4_save 73 = .ok (.aload_n 0, 1) := by decide +kernel
theorem dX4_save_74 : decode cX4_save 74 = .ok (.getfield 7, 3) := by decide +kernel
theorem dX4_save_77 : decode cX4_save 77 = .ok (.iload_n 1, 1) := by decide +kernel
theorem dX4_save_78 : decode cX4_save 78 = .ok (.iaload, 1) := by decide +kernel
theorem dX4_save_79 : decode cX4_save 79 = .ok (.iastore, 1) := by decide +kernel
theorem dX4_save_80 : decode cX4_save 80 = .ok (.iinc 1 1, 3) := by decide +kernel
theorem dX4_save_83 : decode cX4_save 83 = .ok (.goto (-31), 3) := by decide +kernel
theorem dX4_save_86 : decode cX4_save 86 = .ok (.aload_n 0, 1) := by decide +kernel
theorem dX4_save_87 : decode cX4_save 87 = .ok (.dup, 1) := by decide +kernel
theorem dX4_save_88 : decode cX4_save 88 = .ok (.getfield 48, 3) := by decide +kernel
theorem dX4_save_91 : decode cX4_save 91 = .ok (.iconst 1, 1) := by decide +kernel
theorem dX4_save_92 : decode cX4_save 92 = .ok (.iadd, 1) := by decide +kernel
theorem dX4_save_93 : decode cX4_save 93 = .ok (.putfield 48, 3) := by decide +kernel
theorem dX4_save_96 : decode cX4_save 96 = .ok (.return_, 1) := by decide +kernel
theorem dX4_undo_0 : decode cX4_undo 0 = .ok (.aload_n 0, 1) := by decide +kernel
theorem dX4_undo_1 : decode cX4_undo 1 = .ok (.aload_n 0, 1) := by decide +kernel
theorem dX4_undo_2 : decode cX4_undo 2 = .ok (.getfield 48, 3) := by decide +kernel
theorem dX4_undo_5 : decode cX4_undo 5 = .ok (.ifCond .ne 7, 3) := by decide +kernel
theorem dX4_undo_8 : decode cX4_undo 8 = .ok (.iconst 1, 1) := by decide +kernel
theorem dX4_undo_9 : decode cX4_undo 9 = .ok (.goto 4, 3) := by decide +kernel
theorem dX4_undo_12 : decode cX4_undo 12 = .ok (.iconst 0, 1) := by decide +kernel
theorem dX4_undo_13 : decode cX4_undo 13 = .ok (.putfield 40, 3) := by decide +kernel
theorem dX4_undo_16 : decode cX4_undo 16 = .ok (.aload_n 0, 1) := by decide +kernel
theorem dX4_undo_17 : decode cX4_undo 17 = .ok (.getfield 40, 3) := by decide +kernel
theorem dX4_undo_20 : decode cX4_undo 20 = .ok (.ifCond .le 5, 3) := by decide +kernel
theorem dX4_undo_23 : decode cX4_undo 23 = .ok (.iconst 0, 1) := by decide +kernel
theorem dX4_undo_24 : decode cX4_undo 24 = .ok (.ireturn, 1) := by decide +kernel
theorem dX4_undo_25 : decode cX4_undo 25 = .ok (.aload_n 0, 1) := by decide +kernel
theorem dX4_undo_26 : decode cX4_undo 26 = .ok (.dup, 1) := by decide +kernel
theorem dX4_undo_27 : decode cX4_undo 27 = .ok (.getfield 48, 3) := by decide +kernel
theorem dX4_undo_30 : decode cX4_undo 30 = .ok (.iconst 1, 1) := by decide +kernel
theorem dX4_undo_31 : decode cX4_undo 31 = .ok (.isub, 1) := by decide +kernel
theorem dX4_undo_32 : decode cX4_undo 32 = .ok (.putfield 48, 3) := by decide +kernel
theorem dX4_undo_35 : decode cX4_undo 35 = .ok (.iconst 0, 1) := by decide +kernel
theorem dX4_undo_36 : decode cX4_undo 36 = .ok (.istore_n 1, 1) := by decide +kernel
theorem dX4_undo_37 : decode cX4_undo 37 = .ok (.iload_n 1, 1) := by decide +kernel
theorem dX4_undo_38 : decode cX4_undo 38 = .ok (.sipush 1361, 3) := by decide +kernel
theorem dX4_undo_41 : decode cX4_undo 41 = .ok (.if_icmp .ge 30, 3) := by decide +kernel
theorem dX4_undo_44 : decode cX4_undo 44 = .ok (.aload_n 0, 1) := by decide +kernel
theorem dX4_undo_45 : decode cX4_undo 45 = .ok (.getfield 7, 3) := by decide +kernel
theorem dX4_undo_48 : decode cX4_undo 48 = .ok (.iload_n 1, 1) := by decide +kernel
theorem dX4_undo_49 : decode cX4_undo 49 = .ok (.aload_n 0, 1) := by decide +kernel
theorem dX4_undo_50 : decode cX4_undo 50 = .ok (.getfield 13, 3) := by decide +kernel
theorem dX4_undo_53 : decode cX4_undo 53 = .ok (.aload_n 0, 1) := by decide +kernel
theorem dX4_undo_54 : decode cX4_undo 54 = .ok (.getfield 48, 3) := by decide +kernel
theorem dX4_undo_57 : decode cX4_undo 57 = .ok (.sipush 1361, 3) := by decide +kernel
theorem dX4_undo_60 : decode cX4_undo 60 = .ok (.imul, 1) := by decide +kernel
theorem dX4_undo_61 : decode cX4_undo 61 = .ok (.iload_n 1, 1) := by decide +kernel
theorem dX4_undo_62 : decode cX4_undo 62 = .ok (.iadd, 1) := by decide +kernel
theorem dX4_undo_63 : decode cX4_undo 63 = .ok (.iaload, 1) := by decide +kernel
theorem dX4_undo_64 : decode cX4_undo 64 = .ok (.iastore, 1) := by decide +kernel
theorem dX4_undo_65 : decode cX4_undo 65 = .ok (.iinc 1 1, 3) := by decide +kernel
theorem dX4_undo_68 : decode cX4_undo 68 = .ok (.goto (-31), 3) := by decide +kernel
theorem dX4_undo_71 : decode cX4_undo 71 = .ok (.aload_n 0, 1) := by decide +kernel
theorem dX4_undo_72 : decode cX4_undo 72 = .ok (.getfield 48, 3) := by decide +kernel
theorem dX4_undo_75 : decode cX4_undo 75 = .ok (.ireturn, 1) := by decide +kernel
theorem dX4_putAside_0 : decode cX4_putAside 0 = .ok (.iconst 0, 1) := by decide +kernel
theorem dX4_putAside_1 : decode cX4_putAside 1 = .ok (.istore_n 1, 1) := by decide +kernel
theorem dX4_putAside_2 : decode cX4_putAside 2 = .ok (.iload_n 1, 1) := by decide +kernel
theorem dX4_putAside_3 : decode cX4_putAside 3 = .ok (.sipush 1361, 3) := by decide +kernel
theorem dX4_putAside_6 : decode cX4_putAside 6 = .ok (.if_icmp .ge 21, 3) := by decide +kernel
theorem dX4_putAside_9 : decode cX4_putAside 9 = .ok (.aload_n 0, 1) := by decide +kernel
theorem dX4_putAside_10 : decode cX4_putAside 10 = .ok (.getfield 16, 3) := by decide +kernel
theorem dX4_putAside_13 : decode cX4_putAside 13 = .ok (.iload_n 1, 1) := by decide +kernel
theorem dX4_putAside_14 : decode cX4_putAside 14 = .ok (.aload_n 0, 1) := by decide +kernel
theorem dX4_putAside_15 : decode cX4_putAside 15 = .ok (.getfield 7, 3) := by decide +kernel
theorem dX4_putAside_18 : decode cX4_putAside 18 = .ok (.iload_n 1, 1) := by decide +kernel
theorem dX4_putAside_19 : decode cX4_putAside 19 = .ok (.iaload, 1) := by decide +kernel
theorem dX4_putAside_20 : decode cX4_putAside 20 = .ok (.iastore, 1) := by decide +kernel
theorem dX4_putAside_21 : decode cX4_putAside 21 = .ok (.iinc 1 1, 3) := by decide +kernel
theorem dX4_putAside_24 : decode cX4_putAside 24 = .ok (.goto (-22), 3) := by decide +kernel
theorem dX4_putAside_27 : decode cX4_putAside 27 = .ok (.return_, 1) := by decide +kernel
theorem dX4_bringBack_0 : decode cX4_bringBack 0 = .ok (.iconst 0, 1) := by decide +kernel
theorem dX4_bringBack_1 : decode cX4_bringBack 1 = .ok (.istore_n 1, 1) := by decide +kernel
theorem dX4_bringBack_2 : decode cX4_bringBack 2 = .ok (.iload_n 1, 1) := by decide +kernel
theorem dX4_bringBack_3 : decode cX4_bringBack 3 = .ok (.sipush 1361, 3) := by decide +kernel
theorem dX4_bringBack_6 : decode cX4_bringBack 6 = .ok (.if_icmp .ge 21, 3) := by decide +kernel
theorem dX4_bringBack_9 : decode cX4_bringBack 9 = .ok (.aload_n 0, 1) := by decide +kernel
theorem dX4_bringBack_10 : decode cX4_bringBack 10 = .ok (.getfield 7, 3) := by decide +kernel
theorem dX4_bringBack_13 : decode cX4_bringBack 13 = .ok (.iload_n 1, 1) := by decide +kernel
theorem dX4_bringBack_14 : decode cX4_bringBack 14 = .ok (.aload_n 0, 1) := by decide +kernel
theorem dX4_bringBack_15 : decode cX4_bringBack 15 = .ok (.getfield 16, 3) := by decide +kernel
theorem dX4_bringBack_18 : decode cX4_bringBack 18 = .ok (.iload_n 1, 1) := by decide +kernel
theorem dX4_bringBack_19 : decode cX4_bringBack 19 = .ok (.iaload, 1) := by decide +kernel
theorem dX4_bringBack_20 : decode cX4_bringBack 20 = .ok (.iastore, 1) := by decide +kernel
theorem dX4_bringBack_21 : decode cX4_bringBack 21 = .ok (.iinc 1 1, 3) := by decide +kernel
theorem dX4_bringBack_24 : decode cX4_bringBack 24 = .ok (.goto (-22), 3) := by decide +kernel
theorem dX4_bringBack_27 : decode cX4_bringBack 27 = .ok (.return_, 1) := by decide +kernel
set_option maxRecDepth 20000 in
theorem ggX4_child_X4_offset : GoodIn wsX4_child wsX4_offset := goodIn_r _ [6, 1, 11, 12, 13, 14, 15, 16, 17, 18, 19, 20, 21, 22, 23, 24, 25, 26] (by decide +kernel) (by decide +kernel)
set_option maxRecDepth 20000 in
theorem gX4_child_X4_offset : GoodIn wsX4_child (wsV RX4 51 RX4 yX4_offset wsX4_offset) := goodIn_app (goodIn_of _ (by decide +kernel)) ggX4_child_X4_offset
set_option maxRecDepth 20000 in
theorem ggX4_child_X4_isUsed : GoodIn wsX4_child wsX4_isUsed := goodIn_r _ [10, 1, 11, 12, 13, 14, 15, 16, 17, 18, 19, 20, 21, 22, 23, 24, 25, 26] (by decide +kernel) (by decide +kernel)
set_option maxRecDepth 20000 in
theorem gX4_child_X4_isUsed : GoodIn wsX4_child (wsV RX4 55 RX4 yX4_isUsed wsX4_isUsed) := goodIn_app (goodIn_of _ (by decide +kernel)) ggX4_child_X4_isUsed
theorem dX4_child_0 : decode cX4_child 0 = .ok (.aload_n 0, 1) := by decide +kernel
theorem dX4_child_1 : decode cX4_child 1 = .ok (.iload_n 1, 1) := by decide +kernel
theorem dX4_child_2 : decode cX4_child 2 = .ok (.invokevirtual 51, 3) := by decide +kernel
theorem dX4_child_5 : decode cX4_child 5 = .ok (.iload_n 2, 1) := by decide +kernel
theorem dX4_child_6 : decode cX4_child 6 = .ok (.iadd, 1) := by decide +kernel
theorem dX4_child_7 : decode cX4_child 7 = .ok (.istore_n 3, 1) := by decide +kernel
theorem dX4_child_8 : decode cX4_child 8 = .ok (.aload_n 0, 1) := by decide +kernel
theorem dX4_child_9 : decode cX4_child 9 = .ok (.iload_n 1, 1) := by decide +kernel
theorem dX4_child_10 : decode cX4_child 10 = .ok (.invokevirtual 51, 3) := by decide +kernel
theorem dX4_child_13 : decode cX4_child 13 = .ok (.ifCond .le 36, 3) := by decide +kernel
theorem dX4_child_16 : decode cX4_child 16 = .ok (.iload_n 3, 1) := by decide +kernel
theorem dX4_child_17 : decode cX4_child 17 = .ok (.sipush 160, 3) := by decide +kernel
theorem dX4_child_20 : decode cX4_child 20 = .ok (.if_icmp .ge 29, 3) := by decide +kernel
theorem dX4_child_23 : decode cX4_child 23 = .ok (.aload_n 0, 1) := by decide +kernel
theorem dX4_child_24 : decode cX4_child 24 = .ok (.iload_n 3, 1) := by decide +kernel
theorem dX4_child_25 : decode cX4_child 25 = .ok (.invokevirtual 55, 3) := by decide +kernel
theorem dX4_child_28 : decode cX4_child 28 = .ok (.ifCond .eq 21, 3) := by decide +kernel
theorem dX4_child_31 : decode cX4_child 31 = .ok (.aload_n 0, 1) := by decide +kernel
theorem dX4_child_32 : decode cX4_child 32 = .ok (.getfield 7, 3) := by decide +kernel
theorem dX4_child_35 : decode cX4_child 35 = .ok (.sipush 160, 3) := by decide +kernel
theorem dX4_child_38 : decode cX4_child 38 = .ok (.iload_n 3, 1) := by decide +kernel
theorem dX4_child_39 : decode cX4_child 39 = .ok (.iadd, 1) := by decide +kernel
theorem dX4_child_40 : decode cX4_child 40 = .ok (.iaload, 1) := by decide +kernel
theorem dX4_child_41 : decode cX4_child 41 = .ok (.iload_n 1, 1) := by decide +kernel
theorem dX4_child_42 : decode cX4_child 42 = .ok (.if_icmp .ne 7, 3) := by decide +kernel
theorem dX4_child_45 : decode cX4_child 45 = .ok (.iconst 1, 1) := by decide +kernel
theorem dX4_child_46 : decode cX4_child 46 = .ok (.goto 4, 3) := by decide +kernel
theorem dX4_child_49 : decode cX4_child 49 = .ok (.iconst 0, 1) := by decide +kernel
theorem dX4_child_50 : decode cX4_child 50 = .ok (.istore 4, 2) := by decide +kernel
theorem dX4_child_52 : decode cX4_child 52 = .ok (.iload 4, 2) := by decide +kernel
theorem dX4_child_54 : decode cX4_child 54 = .ok (.ifCond .eq 7, 3) := by decide +kernel
theorem dX4_child_57 : decode cX4_child 57 = .ok (.iload_n 3, 1) := by decide +kernel
theorem dX4_child_58 : decode cX4_child 58 = .ok (.goto 4, 3) := by decide +kernel
theorem dX4_child_61 : decode cX4_child 61 = .ok (.iconst (-1), 1) := by decide +kernel
theorem dX4_child_62 : decode cX4_child 62 = .ok (.ireturn, 1) := by decide +kernel
set_option maxRecDepth 20000 in
theorem ggX4_lettersOf_X4_child : GoodIn wsX4_lettersOf wsX4_child := goodIn_r _ [5, 6, 7, 8, 9, 4, 10, 11, 12, 13, 14, 15, 16, 17, 18, 19, 20, 21, 22, 23, 24, 25, 26, 27, 28, 29, 30] (by decide +kernel) (by decide +kernel)
set_option maxRecDepth 20000 in
theorem gX4_lettersOf_X4_child : GoodIn wsX4_lettersOf (wsV RX4 59 RX4 yX4_child wsX4_child) := goodIn_app (goodIn_of _ (by decide +kernel)) ggX4_lettersOf_X4_child
theorem dX4_lettersOf_0 : decode cX4_lettersOf 0 = .ok (.iconst 0, 1) := by decide +kernel
theorem dX4_lettersOf_1 : decode cX4_lettersOf 1 = .ok (.istore_n 2, 1) := by decide +kernel
theorem dX4_lettersOf_2 : decode cX4_lettersOf 2 = .ok (.iconst 0, 1) := by decide +kernel
theorem dX4_lettersOf_3 : decode cX4_lettersOf 3 = .ok (.istore_n 3, 1) := by decide +kernel
theorem dX4_lettersOf_4 : decode cX4_lettersOf 4 = .ok (.iload_n 3, 1) := by decide +kernel
theorem dX4_lettersOf_5 : decode cX4_lettersOf 5 = .ok (.bipush 9, 2) := by decide +kernel
theorem dX4_lettersOf_7 : decode cX4_lettersOf 7 = .ok (.if_icmp .ge 29, 3) := by decide +kernel
theorem dX4_lettersOf_10 : decode cX4_lettersOf 10 = .ok (.iload_n 2, 1) := by decide +kernel
theorem dX4_lettersOf_11 : decode cX4_lettersOf 11 = .ok (.aload_n 0, 1) := by decide +kernel
theorem dX4_lettersOf_12 : decode cX4_lettersOf 12 = .ok (.iload_n 1, 1) := by decide +kernel
theorem dX4_lettersOf_13 : decode cX4_lettersOf 13 = .ok (.iload_n 3, 1) := by decide +kernel
theorem dX4_lettersOf_14 : decode cX4_lettersOf 14 = .ok (.invokevirtual 59, 3) := by decide +kernel
theorem dX4_lettersOf_17 : decode cX4_lettersOf 17 = .ok (.iconst (-1), 1) := by decide +kernel
theorem dX4_lettersOf_18 : decode cX4_lettersOf 18 = .ok (.if_icmp .ne 7, 3) := by decide +kernel
theorem dX4_lettersOf_21 : decode cX4_lettersOf 21 = .ok (.iconst 0, 1) := by decide +kernel
theorem dX4_lettersOf_22 : decode cX4_lettersOf 22 = .ok (.goto 6, 3) := by decide +kernel
theorem dX4_lettersOf_25 : decode cX4_lettersOf 25 = .ok (.iconst 1, 1) := by decide +kernel
theorem dX4_lettersOf_26 : decode cX4_lettersOf 26 = .ok (.iload_n 3, 1) := by decide +kernel
theorem dX4_lettersOf_27 : decode cX4_lettersOf 27 = .ok (.ishl, 1) := by decide +kernel
theorem dX4_lettersOf_28 : decode cX4_lettersOf 28 = .ok (.ior, 1) := by decide +kernel
theorem dX4_lettersOf_29 : decode cX4_lettersOf 29 = .ok (.istore_n 2, 1) := by decide +kernel
theorem dX4_lettersOf_30 : decode cX4_lettersOf 30 = .ok (.iinc 3 1, 3) := by decide +kernel
theorem dX4_lettersOf_33 : decode cX4_lettersOf 33 = .ok (.goto (-29), 3) := by decide +kernel
theorem dX4_lettersOf_36 : decode cX4_lettersOf 36 = .ok (.iload_n 2, 1) := by decide +kernel
theorem dX4_lettersOf_37 : decode cX4_lettersOf 37 = .ok (.ireturn, 1) := by decide +kernel
theorem dX4_bits_0 : decode cX4_bits 0 = .ok (.iconst 0, 1) := by decide +kernel
theorem dX4_bits_1 : decode cX4_bits 1 = .ok (.istore_n 1, 1) := by decide +kernel
theorem dX4_bits_2 : decode cX4_bits 2 = .ok (.iload_n 0, 1) := by decide +kernel
theorem dX4_bits_3 : decode cX4_bits 3 = .ok (.istore_n 2, 1) := by decide +kernel
theorem dX4_bits_4 : decode cX4_bits 4 = .ok (.iload_n 2, 1) := by decide +kernel
theorem dX4_bits_5 : decode cX4_bits 5 = .ok (.ifCond .eq 15, 3) := by decide +kernel
theorem dX4_bits_8 : decode cX4_bits 8 = .ok (.iinc 1 1, 3) := by decide +kernel
theorem dX4_bits_11 : decode cX4_bits 11 = .ok (.iload_n 2, 1) := by decide +kernel
theorem dX4_bits_12 : decode cX4_bits 12 = .ok (.iload_n 2, 1) := by decide +kernel
theorem dX4_bits_13 : decode cX4_bits 13 = .ok (.iconst 1, 1) := by decide +kernel
theorem dX4_bits_14 : decode cX4_bits 14 = .ok (.isub, 1) := by decide +kernel
theorem dX4_bits_15 : decode cX4_bits 15 = .ok (.iand, 1) := by decide +kernel
theorem dX4_bits_16 : decode cX4_bits 16 = .ok (.istore_n 2, 1) := by decide +kernel
theorem dX4_bits_17 : decode cX4_bits 17 = .ok (.goto (-13), 3) := by decide +kernel
theorem dX4_bits_20 : decode cX4_bits 20 = .ok (.iload_n 1, 1) := by decide +kernel
theorem dX4_bits_21 : decode cX4_bits 21 = .ok (.ireturn, 1) := by decide +kernel
set_option maxRecDepth 20000 in
theorem ggX4_fits_X4_isUsed : GoodIn wsX4_fits wsX4_isUsed := goodIn_r _ [5, 6, 7, 8, 9, 10, 11, 12, 13, 14, 15, 16, 17, 18, 19, 20, 21, 22] (by decide +kernel) (by decide +kernel)
set_option maxRecDepth 20000 in
theorem gX4_fits_X4_isUsed : GoodIn wsX4_fits (wsV RX4 55 RX4 yX4_isUsed wsX4_isUsed) := goodIn_app (goodIn_of _ (by decide +kernel)) ggX4_fits_X4_isUsed
theorem dX4_fits_0 : decode cX4_fits 0 = .ok (.iconst 1, 1) := by decide +kernel
theorem dX4_fits_1 : decode cX4_fits 1 = .ok (.istore_n 3, 1) := by decide +kernel
theorem dX4_fits_2 : decode cX4_fits 2 = .ok (.iconst 0, 1) := by decide +kernel
theorem dX4_fits_3 : decode cX4_fits 3 = .ok (.istore 4, 2) := by decide +kernel
theorem dX4_fits_5 : decode cX4_fits 5 = .ok (.iload 4, 2) := by decide +kernel
theorem dX4_fits_7 : decode cX4_fits 7 = .ok (.bipush 9, 2) := by decide +kernel
theorem dX4_fits_9 : decode cX4_fits 9 = .ok (.if_icmp .ge 62, 3) := by decide +kernel
theorem dX4_fits_12 : decode cX4_fits 12 = .ok (.iload_n 2, 1) := by decide +kernel
theorem dX4_fits_13 : decode cX4_fits 13 = .ok (.iload 4, 2) := by decide +kernel
theorem dX4_fits_15 : decode cX4_fits 15 = .ok (.ishr, 1) := by decide +kernel
theorem dX4_fits_16 : decode cX4_fits 16 = .ok (.iconst 1, 1) := by decide +kernel
theorem dX4_fits_17 : decode cX4_fits 17 = .ok (.iand, 1) := by decide +kernel
theorem dX4_fits_18 : decode cX4_fits 18 = .ok (.iconst 1, 1) := by decide +kernel
theorem dX4_fits_19 : decode cX4_fits 19 = .ok (.if_icmp .ne 7, 3) := by decide +kernel
theorem dX4_fits_22 : decode cX4_fits 22 = .ok (.iconst 1, 1) := by decide +kernel
theorem dX4_fits_23 : decode cX4_fits 23 = .ok (.goto 4, 3) := by decide +kernel
theorem dX4_fits_26 : decode cX4_fits 26 = .ok (.iconst 0, 1) := by decide +kernel
theorem dX4_fits_27 : decode cX4_fits 27 = .ok (.istore 5, 2) := by decide +kernel
theorem dX4_fits_29 : decode cX4_fits 29 = .ok (.iload_n 3, 1) := by decide +kernel
theorem dX4_fits_30 : decode cX4_fits 30 = .ok (.ifCond .eq 33, 3) := by decide +kernel
theorem dX4_fits_33 : decode cX4_fits 33 = .ok (.iload 5, 2) := by decide +kernel
theorem dX4_fits_35 : decode cX4_fits 35 = .ok (.ifCond .eq 24, 3) := by decide +kernel
theorem dX4_fits_38 : decode cX4_fits 38 = .ok (.iload_n 1, 1) := by decide +kernel
theorem dX4_fits_39 : decode cX4_fits 39 = .ok (.iload 4, 2) := by decide +kernel
theorem dX4_fits_41 : decode cX4_fits 41 = .ok (.iadd, 1) := by decide +kernel
theorem dX4_fits_42 : decode cX4_fits 42 = .ok (.sipush 160, 3) := by decide +kernel
theorem dX4_fits_45 : decode cX4_fits 45 = .ok (.if_icmp .ge 18, 3) := by decide +kernel
theorem dX4_fits_48 : decode cX4_fits 48 = .ok (.aload_n 0, 1) := by decide +kernel
theorem dX4_fits_49 : decode cX4_fits 49 = .ok (.iload_n 1, 1) := by decide +kernel
theorem dX4_fits_50 : decode cX4_fits 50 = .ok (.iload 4, 2) := by decide +kernel
theorem dX4_fits_52 : decode cX4_fits 52 = .ok (.iadd, 1) := by decide +kernel
theorem dX4_fits_53 : decode cX4_fits 53 = .ok (.invokevirtual 55, 3) := by decide +kernel
theorem dX4_fits_56 : decode cX4_fits 56 = .ok (.ifCond .ne 7, 3) := by decide +kernel
theorem dX4_fits_59 : decode cX4_fits 59 = .ok (.iconst 1, 1) := by decide +kernel
theorem dX4_fits_60 : decode cX4_fits 60 = .ok (.goto 4, 3) := by decide +kernel
theorem dX4_fits_63 : decode cX4_fits 63 = .ok (.iconst 0, 1) := by decide +kernel
theorem dX4_fits_64 : decode cX4_fits 64 = .ok (.istore_n 3, 1) := by decide +kernel
theorem dX4_fits_65 : decode cX4_fits 65 = .ok (.iinc 4 1, 3) := by decide +kernel
theorem dX4_fits_68 : decode cX4_fits 68 = .ok (.goto (-63), 3) := by decide +kernel
theorem dX4_fits_71 : decode cX4_fits 71 = .ok (.iload_n 3, 1) := by decide +kernel
theorem dX4_fits_72 : decode cX4_fits 72 = .ok (.ireturn, 1) := by decide +kernel
set_option maxRecDepth 20000 in
theorem ggX4_leastOffset_X4_fits : GoodIn wsX4_leastOffset wsX4_fits := goodIn_r _ [5, 6, 7, 8, 4, 9, 10, 11, 12, 13, 14, 15, 16, 17, 18, 19, 20, 21, 22, 23, 24, 25, 26] (by decide +kernel) (by decide +kernel)
set_option maxRecDepth 20000 in
theorem gX4_leastOffset_X4_fits : GoodIn wsX4_leastOffset (wsV RX4 63 RX4 yX4_fits wsX4_fits) := goodIn_app (goodIn_of _ (by decide +kernel)) ggX4_leastOffset_X4_fits
theorem dX4_leastOffset_0 : decode cX4_leastOffset 0 = .ok (.iconst 1, 1) := by decide +kernel
theorem dX4_leastOffset_1 : decode cX4_leastOffset 1 = .ok (.istore_n 2, 1) := by decide +kernel
theorem dX4_leastOffset_2 : decode cX4_leastOffset 2 = .ok (.iload_n 2, 1) := by decide +kernel
theorem dX4_leastOffset_3 : decode cX4_leastOffset 3 = .ok (.sipush 160, 3) := by decide +kernel
theorem dX4_leastOffset_6 : decode cX4_leastOffset 6 = .ok (.if_icmp .ge 20, 3) := by decide +kernel
theorem dX4_leastOffset_9 : decode cX4_leastOffset 9 = .ok (.aload_n 0, 1) := by decide +kernel
theorem dX4_leastOffset_10 : decode cX4_leastOffset 10 = .ok (.iload_n 2, 1) := by decide +kernel
theorem dX4_leastOffset_11 : decode cX4_leastOffset 11 = .ok (.iload_n 1, 1) := by decide +kernel
theorem dX4_leastOffset_12 : decode cX4_leastOffset 12 = .ok (.invokevirtual 63, 3) := by decide +kernel
theorem dX4_leastOffset_15 : decode cX4_leastOffset 15 = .ok (.ifCond .eq 5, 3) := by decide +kernel
theorem dX4_leastOffset_18 : decode cX4_leastOffset 18 = .ok (.iload_n 2, 1) := by decide +kernel
theorem dX4_leastOffset_19 : decode cX4_leastOffset 19 = .ok (.ireturn, 1) := by decide +kernel
theorem dX4_leastOffset_20 : decode cX4_leastOffset 20 = .ok (.iinc 2 1, 3) := by decide +kernel
theorem dX4_leastOffset_23 : decode cX4_leastOffset 23 = .ok (.goto (-21), 3) := by decide +kernel
theorem dX4_leastOffset_26 : decode cX4_leastOffset 26 = .ok (.iconst (-1), 1) := by decide +kernel
theorem dX4_leastOffset_27 : decode cX4_leastOffset 27 = .ok (.ireturn, 1) := by decide +kernel
set_option maxRecDepth 20000 in
theorem ggX4_adopt_X4_child : GoodIn wsX4_adopt wsX4_child := goodIn_r _ [6, 1, 7, 8, 9, 5, 10, 11, 12, 13, 14, 15, 16, 17, 18, 19, 20, 21, 22, 23, 24, 25, 26, 27, 28, 29, 30] (by decide +kernel) (by decide +kernel)
set_option maxRecDepth 20000 in
theorem gX4_adopt_X4_child : GoodIn wsX4_adopt (wsV RX4 59 RX4 yX4_child wsX4_child) := goodIn_app (goodIn_of _ (by decide +kernel)) ggX4_adopt_X4_child
theorem dX4_adopt_0 : decode cX4_adopt 0 = .ok (.iconst 0, 1) := by decide +kernel
theorem dX4_adopt_1 : decode cX4_adopt 1 = .ok (.istore_n 3, 1) := by decide +kernel
theorem dX4_adopt_2 : decode cX4_adopt 2 = .ok (.iload_n 3, 1) := by decide +kernel
theorem dX4_adopt_3 : decode cX4_adopt 3 = .ok (.bipush 9, 2) := by decide +kernel
theorem dX4_adopt_5 : decode cX4_adopt 5 = .ok (.if_icmp .ge 35, 3) := by decide +kernel
theorem dX4_adopt_8 : decode cX4_adopt 8 = .ok (.aload_n 0, 1) := by decide +kernel
theorem dX4_adopt_9 : decode cX4_adopt 9 = .ok (.iload_n 1, 1) := by decide +kernel
theorem dX4_adopt_10 : decode cX4_adopt 10 = .ok (.iload_n 3, 1) := by decide +kernel
theorem dX4_adopt_11 : decode cX4_adopt 11 = .ok (.invokevirtual 59, 3) := by decide +kernel
theorem dX4_adopt_14 : decode cX4_adopt 14 = .ok (.istore 4, 2) := by decide +kernel
theorem dX4_adopt_16 : decode cX4_adopt 16 = .ok (.iload 4, 2) := by decide +kernel
theorem dX4_adopt_18 : decode cX4_adopt 18 = .ok (.iconst (-1), 1) := by decide +kernel
theorem dX4_adopt_19 : decode cX4_adopt 19 = .ok (.if_icmp .eq 15, 3) := by decide +kernel
theorem dX4_adopt_22 : decode cX4_adopt 22 = .ok (.aload_n 0, 1) := by decide +kernel
theorem dX4_adopt_23 : decode cX4_adopt 23 = .ok (.getfield 7, 3) := by decide +kernel
theorem dX4_adopt_26 : decode cX4_adopt 26 = .ok (.sipush 160, 3) := by decide +kernel
theorem dX4_adopt_29 : decode cX4_adopt 29 = .ok (.iload 4, 2) := by decide +kernel
theorem dX4_adopt_31 : decode cX4_adopt 31 = .ok (.iadd, 1) := by decide +kernel
theorem dX4_adopt_32 : decode cX4_adopt 32 = .ok (.iload_n 2, 1) := by decide +kernel
theorem dX4_adopt_33 : decode cX4_adopt 33 = .ok (.iastore, 1) := by decide +kernel
theorem dX4_adopt_34 : decode cX4_adopt 34 = .ok (.iinc 3 1, 3) := by decide +kernel
theorem dX4_adopt_37 : decode cX4_adopt 37 = .ok (.goto (-35), 3) := by decide +kernel
theorem dX4_adopt_40 : decode cX4_adopt 40 = .ok (.return_, 1) := by decide +kernel
set_option maxRecDepth 20000 in
theorem ggX4_moveChildren_X4_lettersOf : GoodIn wsX4_moveChildren wsX4_lettersOf := goodIn_r _ [6, 7, 8, 9, 5, 10, 1, 11, 12, 13, 14, 15, 16, 17, 18, 27, 28, 29, 30, 31, 32, 33, 34, 35, 36, 37, 38, 39, 40, 41, 42] (by decide +kernel) (by decide +kernel)
set_option maxRecDepth 20000 in
theorem gX4_moveChildren_X4_lettersOf : GoodIn wsX4_moveChildren (wsV RX4 67 RX4 yX4_lettersOf wsX4_lettersOf) := goodIn_app (goodIn_of _ (by decide +kernel)) ggX4_moveChildren_X4_lettersOf
set_option maxRecDepth 20000 in
theorem ggX4_moveChildren_X4_offset : GoodIn wsX4_moveChildren wsX4_offset := goodIn_r _ [14, 1, 27, 28, 29, 30, 31, 32, 33, 34, 35, 36, 37, 38, 39, 40, 41, 42] (by decide +kernel) (by decide +kernel)
set_option maxRecDepth 20000 in
theorem gX4_moveChildren_X4_offset : GoodIn wsX4_moveChildren (wsV RX4 51 RX4 yX4_offset wsX4_offset) := goodIn_app (goodIn_of _ (by decide +kernel)) ggX4_moveChildren_X4_offset
set_option maxRecDepth 20000 in
theorem ggX4_moveChildren_X4_adopt : GoodIn wsX4_moveChildren wsX4_adopt := goodIn_r _ [22, 1, 7, 8, 9, 5, 10, 11, 12, 13, 14, 15, 16, 17, 18, 27, 28, 29, 30, 31, 32, 33, 34, 35, 36, 37, 38, 39, 40, 41, 42] (by decide +kernel) (by decide +kernel)
set_option maxRecDepth 20000 in
theorem gX4_moveChildren_X4_adopt : GoodIn wsX4_moveChildren (wsV RX4 70 RX4 yX4_adopt wsX4_adopt) := goodIn_app (goodIn_of _ (by decide +kernel)) ggX4_moveChildren_X4_adopt
set_option maxRecDepth 20000 in
theorem ggX4_moveChildren_X4_free : GoodIn wsX4_moveChildren wsX4_free := goodIn_r _ [26, 1, 27, 28, 29, 30, 31, 32, 33, 34, 35, 36, 37, 38, 39, 40, 41, 42] (by decide +kernel) (by decide +kernel)
set_option maxRecDepth 20000 in
theorem gX4_moveChildren_X4_free : GoodIn wsX4_moveChildren (wsV RX4 44 RX4 yX4_free wsX4_free) := goodIn_app (goodIn_of _ (by decide +kernel)) ggX4_moveChildren_X4_free
theorem dX4_moveChildren_0 : decode cX4_moveChildren 0 = .ok (.aload_n 0, 1) := by decide +kernel
theorem dX4_moveChildren_1 : decode cX4_moveChildren 1 = .ok (.iload_n 1, 1) := by decide +kernel
theorem dX4_moveChildren_2 : decode cX4_moveChildren 2 = .ok (.invokevirtual 67, 3) := by decide +kernel
theorem dX4_moveChildren_5 : decode cX4_moveChildren 5 = .ok (.istore_n 3, 1) := by decide +kernel
theorem dX4_moveChildren_6 : decode cX4_moveChildren 6 = .ok (.aload_n 0, 1) := by decide +kernel
theorem dX4_moveChildren_7 : decode cX4_moveChildren 7 = .ok (.iload_n 1, 1) := by decide +kernel
theorem dX4_moveChildren_8 : decode cX4_moveChildren 8 = .ok (.invokevirtual 51, 3) := by decide +kernel
theorem dX4_moveChildren_11 : decode cX4_moveChildren 11 = .ok (.istore 4, 2) := by decide +kernel
theorem dX4_moveChildren_13 : decode cX4_moveChildren 13 = .ok (.iconst 0, 1) := by decide +kernel
theorem dX4_moveChildren_14 : decode cX4_moveChildren 14 = .ok (.istore 5, 2) := by decide +kernel
theorem dX4_moveChildren_16 : decode cX4_moveChildren 16 = .ok (.iload 5, 2) := by decide +kernel
theorem dX4_moveChildren_18 : decode cX4_moveChildren 18 = .ok (.bipush 9, 2) := by decide +kernel
theorem dX4_moveChildren_20 : decode cX4_moveChildren 20 = .ok (.if_icmp .ge 145, 3) := by decide +kernel
theorem dX4_moveChildren_23 : decode cX4_moveChildren 23 = .ok (.iload_n 3, 1) := by decide +kernel
theorem dX4_moveChildren_24 : decode cX4_moveChildren 24 = .ok (.iload 5, 2) := by decide +kernel
theorem dX4_moveChildren_26 : decode cX4_moveChildren 26 = .ok (.ishr, 1) := by decide +kernel
theorem dX4_moveChildren_27 : decode cX4_moveChildren 27 = .ok (.iconst 1, 1) := by decide +kernel
theorem dX4_moveChildren_28 : decode cX4_moveChildren 28 = .ok (.iand, 1) := by decide +kernel
theorem dX4_moveChildren_29 : decode cX4_moveChildren 29 = .ok (.iconst 1, 1) := by decide +kernel
theorem dX4_moveChildren_30 : decode cX4_moveChildren 30 = .ok (.if_icmp .ne 129, 3) := by decide +kernel
theorem dX4_moveChildren_33 : decode cX4_moveChildren 33 = .ok (.iload 4, 2) := by decide +kernel
theorem dX4_moveChildren_35 : decode cX4_moveChildren 35 = .ok (.iload 5, 2) := by decide +kernel
theorem dX4_moveChildren_37 : decode cX4_moveChildren 37 = .ok (.iadd, 1) := by decide +kernel
theorem dX4_moveChildren_38 : decode cX4_moveChildren 38 = .ok (.istore 6, 2) := by decide +kernel
theorem dX4_moveChildren_40 : decode cX4_moveChildren 40 = .ok (.iload_n 2, 1) := by decide +kernel
theorem dX4_moveChildren_41 : decode cX4_moveChildren 41 = .ok (.iload 5, 2) := by decide +kernel
theorem dX4_moveChildren_43 : decode cX4_moveChildren 43 = .ok (.iadd, 1) := by decide +kernel
theorem dX4_moveChildren_44 : decode cX4_moveChildren 44 = .ok (.istore 7, 2) := by decide +kernel
theorem dX4_moveChildren_46 : decode cX4_moveChildren 46 = .ok (.aload_n 0, 1) := by decide +kernel
theorem dX4_moveChildren_47 : decode cX4_moveChildren 47 = .ok (.getfield 7, 3) := by decide +kernel
theorem dX4_moveChildren_50 : decode cX4_moveChildren 50 = .ok (.iconst 0, 1) := by decide +kernel
theorem dX4_moveChildren_51 : decode cX4_moveChildren 51 = .ok (.iload 7, 2) := by decide +kernel
theorem dX4_moveChildren_53 : decode cX4_moveChildren 53 = .ok (.iadd, 1) := by decide +kernel
theorem dX4_moveChildren_54 : decode cX4_moveChildren 54 = .ok (.aload_n 0, 1) := by decide +kernel
theorem dX4_moveChildren_55 : decode cX4_moveChildren 55 = .ok (.getfield 7, 3) := by decide +kernel
theorem dX4_moveChildren_58 : decode cX4_moveChildren 58 = .ok (.iconst 0, 1) := by decide +kernel
theorem dX4_moveChildren_59 : decode cX4_moveChildren 59 = .ok (.iload 6, 2) := by decide +kernel
theorem dX4_moveChildren_61 : decode cX4_moveChildren 61 = .ok (.iadd, 1) := by decide +kernel
theorem dX4_moveChildren_62 : decode cX4_moveChildren 62 = .ok (.iaload, 1) := by decide +kernel
theorem dX4_moveChildren_63 : decode cX4_moveChildren 63 = .ok (.iastore, 1) := by decide +kernel
theorem dX4_moveChildren_64 : decode cX4_moveChildren 64 = .ok (.aload_n 0, 1) := by decide +kernel
theorem dX4_moveChildren_65 : decode cX4_moveChildren 65 = .ok (.getfield 7, 3) := by decide +kernel
theorem dX4_moveChildren_68 : decode cX4_moveChildren 68 = .ok (.sipush 160, 3) := by decide +kernel
theorem dX4_moveChildren_71 : decode cX4_moveChildren 71 = .ok (.iload 7, 2) := by decide +kernel
theorem dX4_moveChildren_73 : decode cX4_moveChildren 73 = .ok (.iadd, 1) := by decide +kernel
theorem dX4_moveChildren_74 : decode cX4_moveChildren 74 = .ok (.iload_n 1, 1) := by decide +kernel
theorem dX4_moveChildren_75 : decode cX4_moveChildren 75 = .ok (.iastore, 1) := by decide +kernel
theorem dX4_moveChildren_76 : decode cX4_moveChildren 76 = .ok (.aload_n 0, 1) := by decide +kernel
theorem dX4_moveChildren_77 : decode cX4_moveChildren 77 = .ok (.getfield 7, 3) := by decide +kernel
theorem dX4_moveChildren_80 : decode cX4_moveChildren 80 = .ok (.sipush 320, 3) := by decide +kernel
theorem dX4_moveChildren_83 : decode cX4_moveChildren 83 = .ok (.iload 7, 2) := by decide +kernel
theorem dX4_moveChildren_85 : decode cX4_moveChildren 85 = .ok (.iadd, 1) := by decide +kernel
theorem dX4_moveChildren_86 : decode cX4_moveChildren 86 = .ok (.iload 5, 2) := by decide +kernel
theorem dX4_moveChildren_88 : decode cX4_moveChildren 88 = .ok (.iastore, 1) := by decide +kernel
theorem dX4_moveChildren_89 : decode cX4_moveChildren 89 = .ok (.aload_n 0, 1) := by decide +kernel
theorem dX4_moveChildren_90 : decode cX4_moveChildren 90 = .ok (.getfield 7, 3) := by decide +kernel
theorem dX4_moveChildren_93 : decode cX4_moveChildren 93 = .ok (.sipush 480, 3) := by decide +kernel
theorem dX4_moveChildren_96 : decode cX4_moveChildren 96 = .ok (.iload 7, 2) := by decide +kernel
theorem dX4_moveChildren_98 : decode cX4_moveChildren 98 = .ok (.iadd, 1) := by decide +kernel
theorem dX4_moveChildren_99 : decode cX4_moveChildren 99 = .ok (.aload_n 0, 1) := by decide +kernel
theorem dX4_moveChildren_100 : decode cX4_moveChildren 100 = .ok (.getfield 7, 3) := by decide +kernel
theorem dX4_moveChildren_103 : decode cX4_moveChildren 103 = .ok (.sipush 480, 3) := by decide +kernel
theorem dX4_moveChildren_106 : decode cX4_moveChildren 106 = .ok (.iload 6, 2) := by decide +kernel
theorem dX4_moveChildren_108 : decode cX4_moveChildren 108 = .ok (.iadd, 1) := by decide +kernel
theorem dX4_moveChildren_109 : decode cX4_moveChildren 109 = .ok (.iaload, 1) := by decide +kernel
theorem dX4_moveChildren_110 : decode cX4_moveChildren 110 = .ok (.iastore, 1) := by decide +kernel
theorem dX4_moveChildren_111 : decode cX4_moveChildren 111 = .ok (.aload_n 0, 1) := by decide +kernel
theorem dX4_moveChildren_112 : decode cX4_moveChildren 112 = .ok (.getfield 7, 3) := by decide +kernel
theorem dX4_moveChildren_115 : decode cX4_moveChildren 115 = .ok (.sipush 640, 3) := by decide +kernel
theorem dX4_moveChildren_118 : decode cX4_moveChildren 118 = .ok (.iload 7, 2) := by decide +kernel
theorem dX4_moveChildren_120 : decode cX4_moveChildren 120 = .ok (.iadd, 1) := by decide +kernel
theorem dX4_moveChildren_121 : decode cX4_moveChildren 121 = .ok (.aload_n 0, 1) := by decide +kernel
theorem dX4_moveChildren_122 : decode cX4_moveChildren 122 = .ok (.getfield 7, 3) := by decide +kernel
theorem dX4_moveChildren_125 : decode cX4_moveChildren 125 = .ok (.sipush 640, 3) := by decide +kernel
theorem dX4_moveChildren_128 : decode cX4_moveChildren 128 = .ok (.iload 6, 2) := by decide +kernel
theorem dX4_moveChildren_130 : decode cX4_moveChildren 130 = .ok (.iadd, 1) := by decide +kernel
theorem dX4_moveChildren_131 : decode cX4_moveChildren 131 = .ok (.iaload, 1) := by decide +kernel
theorem dX4_moveChildren_132 : decode cX4_moveChildren 132 = .ok (.iastore, 1) := by decide +kernel
theorem dX4_moveChildren_133 : decode cX4_moveChildren 133 = .ok (.aload_n 0, 1) := by decide +kernel
theorem dX4_moveChildren_134 : decode cX4_moveChildren 134 = .ok (.iload 6, 2) := by decide +kernel
theorem dX4_moveChildren_136 : decode cX4_moveChildren 136 = .ok (.iload 7, 2) := by decide +kernel
theorem dX4_moveChildren_138 : decode cX4_moveChildren 138 = .ok (.invokevirtual 70, 3) := by decide +kernel
theorem dX4_moveChildren_141 : decode cX4_moveChildren 141 = .ok (.aload_n 0, 1) := by decide +kernel
theorem dX4_moveChildren_142 : decode cX4_moveChildren 142 = .ok (.iload 6, 2) := by decide +kernel
theorem dX4_moveChildren_144 : decode cX4_moveChildren 144 = .ok (.invokevirtual 44, 3) := by decide +kernel
theorem dX4_moveChildren_147 : decode cX4_moveChildren 147 = .ok (.aload_n 0, 1) := by decide +kernel
theorem dX4_moveChildren_148 : decode cX4_moveChildren 148 = .ok (.getfield 7, 3) := by decide +kernel
theorem dX4_moveChildren_151 : decode cX4_moveChildren 151 = .ok (.sipush 1360, 3) := by decide +kernel
theorem dX4_moveChildren_154 : decode cX4_moveChildren 154 = .ok (.dup2, 1) := by decide +kernel
theorem dX4_moveChildren_155 : decode cX4_moveChildren 155 = .ok (.iaload, 1) := by decide +kernel
theorem dX4_moveChildren_156 : decode cX4_moveChildren 156 = .ok (.iconst 1, 1) := by decide +kernel
theorem dX4_moveChildren_157 : decode cX4_moveChildren 157 = .ok (.iadd, 1) := by decide +kernel
theorem dX4_moveChildren_158 : decode cX4_moveChildren 158 = .ok (.iastore, 1) := by decide +kernel
theorem dX4_moveChildren_159 : decode cX4_moveChildren 159 = .ok (.iinc 5 1, 3) := by decide +kernel
theorem dX4_moveChildren_162 : decode cX4_moveChildren 162 = .ok (.goto (-146), 3) := by decide +kernel
theorem dX4_moveChildren_165 : decode cX4_moveChildren 165 = .ok (.aload_n 0, 1) := by decide +kernel
theorem dX4_moveChildren_166 : decode cX4_moveChildren 166 = .ok (.getfield 7, 3) := by decide +kernel
theorem dX4_moveChildren_169 : decode cX4_moveChildren 169 = .ok (.sipush 480, 3) := by decide +kernel
theorem dX4_moveChildren_172 : decode cX4_moveChildren 172 = .ok (.iload_n 1, 1) := by decide +kernel
theorem dX4_moveChildren_173 : decode cX4_moveChildren 173 = .ok (.iadd, 1) := by decide +kernel
theorem dX4_moveChildren_174 : decode cX4_moveChildren 174 = .ok (.iload_n 2, 1) := by decide +kernel
theorem dX4_moveChildren_175 : decode cX4_moveChildren 175 = .ok (.iastore, 1) := by decide +kernel
theorem dX4_moveChildren_176 : decode cX4_moveChildren 176 = .ok (.return_, 1) := by decide +kernel
set_option maxRecDepth 20000 in
theorem ggX4_makeRoom_X4_offset : GoodIn wsX4_makeRoom wsX4_offset := goodIn_r _ [6, 1, 42, 43, 44, 45, 46, 47, 48, 49, 50, 51, 52, 53, 54, 55, 56, 57] (by decide +kernel) (by decide +kernel)
set_option maxRecDepth 20000 in
theorem gX4_makeRoom_X4_offset : GoodIn wsX4_makeRoom (wsV RX4 51 RX4 yX4_offset wsX4_offset) := goodIn_app (goodIn_of _ (by decide +kernel)) ggX4_makeRoom_X4_offset
set_option maxRecDepth 20000 in
theorem ggX4_makeRoom_X4_isUsed : GoodIn wsX4_makeRoom wsX4_isUsed := goodIn_r _ [10, 1, 42, 43, 44, 45, 46, 47, 48, 49, 50, 51, 52, 53, 54, 55, 56, 57] (by decide +kernel) (by decide +kernel)
set_option maxRecDepth 20000 in
theorem gX4_makeRoom_X4_isUsed : GoodIn wsX4_makeRoom (wsV RX4 55 RX4 yX4_isUsed wsX4_isUsed) := goodIn_app (goodIn_of _ (by decide +kernel)) ggX4_makeRoom_X4_isUsed
set_option maxRecDepth 20000 in
theorem ggX4_makeRoom_X4_lettersOf : GoodIn wsX4_makeRoom wsX4_lettersOf := goodIn_r _ [14, 15, 16, 17, 5, 18, 1, 2, 3, 4, 6, 7, 8, 9, 10, 42, 43, 44, 45, 46, 47, 48, 49, 50, 51, 52, 53, 54, 55, 56, 57] (by decide +kernel) (by decide +kernel)
set_option maxRecDepth 20000 in
theorem gX4_makeRoom_X4_lettersOf : GoodIn wsX4_makeRoom (wsV RX4 67 RX4 yX4_lettersOf wsX4_lettersOf) := goodIn_app (goodIn_of _ (by decide +kernel)) ggX4_makeRoom_X4_lettersOf
set_option maxRecDepth 20000 in
theorem ggX4_makeRoom_X4_bits : GoodIn wsX4_makeRoom wsX4_bits := goodIn_r _ [21] (by decide +kernel) (by decide +kernel)
set_option maxRecDepth 20000 in
theorem gX4_makeRoom_X4_bits : GoodIn wsX4_makeRoom (va_wsS RX4 74 yX4_bits wsX4_bits) := goodIn_app (goodIn_of _ (by decide +kernel)) ggX4_makeRoom_X4_bits
set_option maxRecDepth 20000 in
theorem ggX4_makeRoom_X4_leastOffset : GoodIn wsX4_makeRoom wsX4_leastOffset := goodIn_r _ [25, 26, 27, 28, 5, 29, 7, 8, 9, 10, 1, 42, 43, 44, 45, 46, 47, 48, 49, 50, 51, 52, 53, 54, 55, 56, 57] (by decide +kernel) (by decide +kernel)
set_option maxRecDepth 20000 in
theorem gX4_makeRoom_X4_leastOffset : GoodIn wsX4_makeRoom (wsV RX4 77 RX4 yX4_leastOffset wsX4_leastOffset) := goodIn_app (goodIn_of _ (by decide +kernel)) ggX4_makeRoom_X4_leastOffset
set_option maxRecDepth 20000 in
theorem ggX4_makeRoom_X4_moveChildren : GoodIn wsX4_makeRoom wsX4_moveChildren := goodIn_r _ [33, 1, 11, 12, 13, 5, 14, 15, 16, 17, 18, 2, 3, 4, 6, 7, 8, 9, 10, 34, 35, 36, 37, 38, 39, 40, 41, 42, 43, 44, 45, 46, 47, 48, 49, 50, 51, 52, 53, 54, 55, 56, 57] (by decide +kernel) (by decide +kernel)
set_option maxRecDepth 20000 in
theorem gX4_makeRoom_X4_moveChildren : GoodIn wsX4_makeRoom (wsV RX4 80 RX4 yX4_moveChildren wsX4_moveChildren) := goodIn_app (goodIn_of _ (by decide +kernel)) ggX4_makeRoom_X4_moveChildren
theorem dX4_makeRoom_0 : decode cX4_makeRoom 0 = .ok (.aload_n 0, 1) := by decide +kernel
theorem dX4_makeRoom_1 : decode cX4_makeRoom 1 = .ok (.iload_n 1, 1) := by decide +kernel
theorem dX4_makeRoom_2 : decode cX4_makeRoom 2 = .ok (.invokevirtual 51, 3) := by decide +kernel
theorem dX4_makeRoom_5 : decode cX4_makeRoom 5 = .ok (.iload_n 2, 1) := by decide +kernel
theorem dX4_makeRoom_6 : decode cX4_makeRoom 6 = .ok (.iadd, 1) := by decide +kernel
theorem dX4_makeRoom_7 : decode cX4_makeRoom 7 = .ok (.istore_n 3, 1) := by decide +kernel
theorem dX4_makeRoom_8 : decode cX4_makeRoom 8 = .ok (.iload_n 3, 1) := by decide +kernel
theorem dX4_makeRoom_9 : decode cX4_makeRoom 9 = .ok (.sipush 160, 3) := by decide +kernel
theorem dX4_makeRoom_12 : decode cX4_makeRoom 12 = .ok (.if_icmp .ge 13, 3) := by decide +kernel
theorem dX4_makeRoom_15 : decode cX4_makeRoom 15 = .ok (.aload_n 0, 1) := by decide +kernel
theorem dX4_makeRoom_16 : decode cX4_makeRoom 16 = .ok (.iload_n 3, 1) := by decide +kernel
theorem dX4_makeRoom_17 : decode cX4_makeRoom 17 = .ok (.invokevirtual 55, 3) := by decide +kernel
theorem dX4_makeRoom_20 : decode cX4_makeRoom 20 = .ok (.ifCond .ne 5, 3) := by decide +kernel
theorem dX4_makeRoom_23 : decode cX4_makeRoom 23 = .ok (.iload_n 1, 1) := by decide +kernel
theorem dX4_makeRoom_24 : decode cX4_makeRoom 24 = .ok (.ireturn, 1) := by decide +kernel
theorem dX4_makeRoom_25 : decode cX4_makeRoom 25 = .ok (.aload_n 0, 1) := by decide +kernel
theorem dX4_makeRoom_26 : decode cX4_makeRoom 26 = .ok (.iload_n 1, 1) := by decide +kernel
theorem dX4_makeRoom_27 : decode cX4_makeRoom 27 = .ok (.invokevirtual 67, 3) := by decide +kernel
theorem dX4_makeRoom_30 : decode cX4_makeRoom 30 = .ok (.istore 4, 2) := by decide +kernel
theorem dX4_makeRoom_32 : decode cX4_makeRoom 32 = .ok (.iload_n 3, 1) := by decide +kernel
theorem dX4_makeRoom_33 : decode cX4_makeRoom 33 = .ok (.sipush 160, 3) := by decide +kernel
theorem dX4_makeRoom_36 : decode cX4_makeRoom 36 = .ok (.if_icmp .ge 16, 3) := by decide +kernel
theorem dX4_makeRoom_39 : decode cX4_makeRoom 39 = .ok (.aload_n 0, 1) := by decide +kernel
theorem dX4_makeRoom_40 : decode cX4_makeRoom 40 = .ok (.getfield 7, 3) := by decide +kernel
theorem dX4_makeRoom_43 : decode cX4_makeRoom 43 = .ok (.sipush 160, 3) := by decide +kernel
theorem dX4_makeRoom_46 : decode cX4_makeRoom 46 = .ok (.iload_n 3, 1) := by decide +kernel
theorem dX4_makeRoom_47 : decode cX4_makeRoom 47 = .ok (.iadd, 1) := by decide +kernel
theorem dX4_makeRoom_48 : decode cX4_makeRoom 48 = .ok (.iaload, 1) := by decide +kernel
theorem dX4_makeRoom_49 : decode cX4_makeRoom 49 = .ok (.goto 4, 3) := by decide +kernel
theorem dX4_makeRoom_52 : decode cX4_makeRoom 52 = .ok (.iload_n 1, 1) := by decide +kernel
theorem dX4_makeRoom_53 : decode cX4_makeRoom 53 = .ok (.istore 5, 2) := by decide +kernel
theorem dX4_makeRoom_55 : decode cX4_makeRoom 55 = .ok (.iload 5, 2) := by decide +kernel
theorem dX4_makeRoom_57 : decode cX4_makeRoom 57 = .ok (.iload_n 1, 1) := by decide +kernel
theorem dX4_makeRoom_58 : decode cX4_makeRoom 58 = .ok (.if_icmp .eq 26, 3) := by decide +kernel
theorem dX4_makeRoom_61 : decode cX4_makeRoom 61 = .ok (.aload_n 0, 1) := by decide +kernel
theorem dX4_makeRoom_62 : decode cX4_makeRoom 62 = .ok (.iload 5, 2) := by decide +kernel
theorem dX4_makeRoom_64 : decode cX4_makeRoom 64 = .ok (.invokevirtual 67, 3) := by decide +kernel
theorem dX4_makeRoom_67 : decode cX4_makeRoom 67 = .ok (.invokestatic 74, 3) := by decide +kernel
theorem dX4_makeRoom_70 : decode cX4_makeRoom 70 = .ok (.iload 4, 2) := by decide +kernel
theorem dX4_makeRoom_72 : decode cX4_makeRoom 72 = .ok (.invokestatic 74, 3) := by decide +kernel
theorem dX4_makeRoom_75 : decode cX4_makeRoom 75 = .ok (.iconst 1, 1) := by decide +kernel
theorem dX4_makeRoom_76 : decode cX4_makeRoom 76 = .ok (.iadd, 1) := by decide +kernel
theorem dX4_makeRoom_77 : decode cX4_makeRoom 77 = .ok (.if_icmp .ge 7, 3) := by decide +kernel
theorem dX4_makeRoom_80 : decode cX4_makeRoom 80 = .ok (.iconst 1, 1) := by decide +kernel
theorem dX4_makeRoom_81 : decode cX4_makeRoom 81 = .ok (.goto 4, 3) := by decide +kernel
theorem dX4_makeRoom_84 : decode cX4_makeRoom 84 = .ok (.iconst 0, 1) := by decide +kernel
theorem dX4_makeRoom_85 : decode cX4_makeRoom 85 = .ok (.istore 6, 2) := by decide +kernel
theorem dX4_makeRoom_87 : decode cX4_makeRoom 87 = .ok (.iload 6, 2) := by decide +kernel
theorem dX4_makeRoom_89 : decode cX4_makeRoom 89 = .ok (.ifCond .eq 8, 3) := by decide +kernel
theorem dX4_makeRoom_92 : decode cX4_makeRoom 92 = .ok (.iload 5, 2) := by decide +kernel
theorem dX4_makeRoom_94 : decode cX4_makeRoom 94 = .ok (.goto 4, 3) := by decide +kernel
theorem dX4_makeRoom_97 : decode cX4_makeRoom 97 = .ok (.iload_n 1, 1) := by decide +kernel
theorem dX4_makeRoom_98 : decode cX4_makeRoom 98 = .ok (.istore 7, 2) := by decide +kernel
theorem dX4_makeRoom_100 : decode cX4_makeRoom 100 = .ok (.aload_n 0, 1) := by decide +kernel
theorem dX4_makeRoom_101 : decode cX4_makeRoom 101 = .ok (.iload 6, 2) := by decide +kernel
theorem dX4_makeRoom_103 : decode cX4_makeRoom 103 = .ok (.ifCond .eq 12, 3) := by decide +kernel
theorem dX4_makeRoom_106 : decode cX4_makeRoom 106 = .ok (.aload_n 0, 1) := by decide +kernel
theorem dX4_makeRoom_107 : decode cX4_makeRoom 107 = .ok (.iload 5, 2) := by decide +kernel
theorem dX4_makeRoom_109 : decode cX4_makeRoom 109 = .ok (.invokevirtual 67, 3) := by decide +kernel
theorem dX4_makeRoom_112 : decode cX4_makeRoom 112 = .ok (.goto 9, 3) := by decide +kernel
theorem dX4_makeRoom_115 : decode cX4_makeRoom 115 = .ok (.iload 4, 2) := by decide +kernel
theorem dX4_makeRoom_117 : decode cX4_makeRoom 117 = .ok (.iconst 1, 1) := by decide +kernel
theorem dX4_makeRoom_118 : decode cX4_makeRoom 118 = .ok (.iload_n 2, 1) := by decide +kernel
theorem dX4_makeRoom_119 : decode cX4_makeRoom 119 = .ok (.ishl, 1) := by decide +kernel
theorem dX4_makeRoom_120 : decode cX4_makeRoom 120 = .ok (.ior, 1) := by decide +kernel
theorem dX4_makeRoom_121 : decode cX4_makeRoom 121 = .ok (.invokevirtual 77, 3) := by decide +kernel
theorem dX4_makeRoom_124 : decode cX4_makeRoom 124 = .ok (.istore 8, 2) := by decide +kernel
theorem dX4_makeRoom_126 : decode cX4_makeRoom 126 = .ok (.iload 8, 2) := by decide +kernel
theorem dX4_makeRoom_128 : decode cX4_makeRoom 128 = .ok (.iconst (-1), 1) := by decide +kernel
theorem dX4_makeRoom_129 : decode cX4_makeRoom 129 = .ok (.if_icmp .ne 5, 3) := by decide +kernel
theorem dX4_makeRoom_132 : decode cX4_makeRoom 132 = .ok (.iconst (-1), 1) := by decide +kernel
theorem dX4_makeRoom_133 : decode cX4_makeRoom 133 = .ok (.ireturn, 1) := by decide +kernel
theorem dX4_makeRoom_134 : decode cX4_makeRoom 134 = .ok (.iload 6, 2) := by decide +kernel
theorem dX4_makeRoom_136 : decode cX4_makeRoom 136 = .ok (.ifCond .eq 26, 3) := by decide +kernel
theorem dX4_makeRoom_139 : decode cX4_makeRoom 139 = .ok (.iload_n 1, 1) := by decide +kernel
theorem dX4_makeRoom_140 : decode cX4_makeRoom 140 = .ok (.ifCond .eq 22, 3) := by decide +kernel
theorem dX4_makeRoom_143 : decode cX4_makeRoom 143 = .ok (.aload_n 0, 1) := by decide +kernel
theorem dX4_makeRoom_144 : decode cX4_makeRoom 144 = .ok (.getfield 7, 3) := by decide +kernel
theorem dX4_makeRoom_147 : decode cX4_makeRoom 147 = .ok (.sipush 160, 3) := by decide +kernel
theorem dX4_makeRoom_150 : decode cX4_makeRoom 150 = .ok (.iload_n 1, 1) := by decide +kernel
theorem dX4_makeRoom_151 : decode cX4_makeRoom 151 = .ok (.iadd, 1) := by decide +kernel
theorem dX4_makeRoom_152 : decode cX4_makeRoom 152 = .ok (.iaload, 1) := by decide +kernel
theorem dX4_makeRoom_153 : decode cX4_makeRoom 153 = .ok (.iload 5, 2) := by decide +kernel
theorem dX4_makeRoom_155 : decode cX4_makeRoom 155 = .ok (.if_icmp .ne 7, 3) := by decide +kernel
theorem dX4_makeRoom_158 : decode cX4_makeRoom 158 = .ok (.iconst 1, 1) := by decide +kernel
theorem dX4_makeRoom_159 : decode cX4_makeRoom 159 = .ok (.goto 4, 3) := by decide +kernel
theorem dX4_makeRoom_162 : decode cX4_makeRoom 162 = .ok (.iconst 0, 1) := by decide +kernel
theorem dX4_makeRoom_163 : decode cX4_makeRoom 163 = .ok (.istore 9, 2) := by decide +kernel
theorem dX4_makeRoom_165 : decode cX4_makeRoom 165 = .ok (.iload 9, 2) := by decide +kernel
theorem dX4_makeRoom_167 : decode cX4_makeRoom 167 = .ok (.ifCond .eq 19, 3) := by decide +kernel
theorem dX4_makeRoom_170 : decode cX4_makeRoom 170 = .ok (.iload 8, 2) := by decide +kernel
theorem dX4_makeRoom_172 : decode cX4_makeRoom 172 = .ok (.aload_n 0, 1) := by decide +kernel
theorem dX4_makeRoom_173 : decode cX4_makeRoom 173 = .ok (.getfield 7, 3) := by decide +kernel
theorem dX4_makeRoom_176 : decode cX4_makeRoom 176 = .ok (.sipush 320, 3) := by decide +kernel
theorem dX4_makeRoom_179 : decode cX4_makeRoom 179 = .ok (.iload_n 1, 1) := by decide +kernel
theorem dX4_makeRoom_180 : decode cX4_makeRoom 180 = .ok (.iadd, 1) := by decide +kernel
theorem dX4_makeRoom_181 : decode cX4_makeRoom 181 = .ok (.iaload, 1) := by decide +kernel
theorem dX4_makeRoom_182 : decode cX4_makeRoom 182 = .ok (.iadd, 1) := by decide +kernel
theorem dX4_makeRoom_183 : decode cX4_makeRoom 183 = .ok (.goto 4, 3) := by decide +kernel
theorem dX4_makeRoom_186 : decode cX4_makeRoom 186 = .ok (.iload_n 1, 1) := by decide +kernel
theorem dX4_makeRoom_187 : decode cX4_makeRoom 187 = .ok (.istore 10, 2) := by decide +kernel
theorem dX4_makeRoom_189 : decode cX4_makeRoom 189 = .ok (.aload_n 0, 1) := by decide +kernel
theorem dX4_makeRoom_190 : decode cX4_makeRoom 190 = .ok (.iload 7, 2) := by decide +kernel
theorem dX4_makeRoom_192 : decode cX4_makeRoom 192 = .ok (.iload 8, 2) := by decide +kernel
theorem dX4_makeRoom_194 : decode cX4_makeRoom 194 = .ok (.invokevirtual 80, 3) := by decide +kernel
theorem dX4_makeRoom_197 : decode cX4_makeRoom 197 = .ok (.iload 10, 2) := by decide +kernel
theorem dX4_makeRoom_199 : decode cX4_makeRoom 199 = .ok (.ireturn, 1) := by decide +kernel
set_option maxRecDepth 20000 in
theorem ggX4_open_X4_leastOffset : GoodIn wsX4_open wsX4_leastOffset := goodIn_r _ [6, 7, 8, 9, 5, 10, 11, 12, 13, 14, 1, 15, 16, 17, 18, 19, 20, 21, 22, 23, 24, 25, 26, 27, 28, 29, 30] (by decide +kernel) (by decide +kernel)
set_option maxRecDepth 20000 in
theorem gX4_open_X4_leastOffset : GoodIn wsX4_open (wsV RX4 77 RX4 yX4_leastOffset wsX4_leastOffset) := goodIn_app (goodIn_of _ (by decide +kernel)) ggX4_open_X4_leastOffset
theorem dX4_open_0 : decode cX4_open 0 = .ok (.aload_n 0, 1) := by decide +kernel
theorem dX4_open_1 : decode cX4_open 1 = .ok (.iload_n 2, 1) := by decide +kernel
theorem dX4_open_2 : decode cX4_open 2 = .ok (.invokevirtual 77, 3) := by decide +kernel
theorem dX4_open_5 : decode cX4_open 5 = .ok (.istore_n 3, 1) := by decide +kernel
theorem dX4_open_6 : decode cX4_open 6 = .ok (.iload_n 3, 1) := by decide +kernel
theorem dX4_open_7 : decode cX4_open 7 = .ok (.iconst (-1), 1) := by decide +kernel
theorem dX4_open_8 : decode cX4_open 8 = .ok (.if_icmp .eq 14, 3) := by decide +kernel
theorem dX4_open_11 : decode cX4_open 11 = .ok (.aload_n 0, 1) := by decide +kernel
theorem dX4_open_12 : decode cX4_open 12 = .ok (.getfield 7, 3) := by decide +kernel
theorem dX4_open_15 : decode cX4_open 15 = .ok (.sipush 480, 3) := by decide +kernel
theorem dX4_open_18 : decode cX4_open 18 = .ok (.iload_n 1, 1) := by decide +kernel
theorem dX4_open_19 : decode cX4_open 19 = .ok (.iadd, 1) := by decide +kernel
theorem dX4_open_20 : decode cX4_open 20 = .ok (.iload_n 3, 1) := by decide +kernel
theorem dX4_open_21 : decode cX4_open 21 = .ok (.iastore, 1) := by decide +kernel
theorem dX4_open_22 : decode cX4_open 22 = .ok (.iload_n 3, 1) := by decide +kernel
theorem dX4_open_23 : decode cX4_open 23 = .ok (.iconst (-1), 1) := by decide +kernel
theorem dX4_open_24 : decode cX4_open 24 = .ok (.if_icmp .eq 7, 3) := by decide +kernel
theorem dX4_open_27 : decode cX4_open 27 = .ok (.iconst 1, 1) := by decide +kernel
theorem dX4_open_28 : decode cX4_open 28 = .ok (.goto 4, 3) := by decide +kernel
theorem dX4_open_31 : decode cX4_open 31 = .ok (.iconst 0, 1) := by decide +kernel
theorem dX4_open_32 : decode cX4_open 32 = .ok (.ireturn, 1) := by decide +kernel
set_option maxRecDepth 20000 in
theorem ggX4_putChild_X4_offset : GoodIn wsX4_putChild wsX4_offset := goodIn_r _ [6, 1, 7, 8, 9, 10, 11, 12, 13, 14, 15, 16, 17, 18, 19, 20, 21, 22] (by decide +kernel) (by decide +kernel)
set_option maxRecDepth 20000 in
theorem gX4_putChild_X4_offset : GoodIn wsX4_putChild (wsV RX4 51 RX4 yX4_offset wsX4_offset) := goodIn_app (goodIn_of _ (by decide +kernel)) ggX4_putChild_X4_offset
theorem dX4_putChild_0 : decode cX4_putChild 0 = .ok (.aload_n 0, 1) := by decide +kernel
theorem dX4_putChild_1 : decode cX4_putChild 1 = .ok (.iload_n 1, 1) := by decide +kernel
theorem dX4_putChild_2 : decode cX4_putChild 2 = .ok (.invokevirtual 51, 3) := by decide +kernel
theorem dX4_putChild_5 : decode cX4_putChild 5 = .ok (.iload_n 2, 1) := by decide +kernel
theorem dX4_putChild_6 : decode cX4_putChild 6 = .ok (.iadd, 1) := by decide +kernel
theorem dX4_putChild_7 : decode cX4_putChild 7 = .ok (.istore 4, 2) := by decide +kernel
theorem dX4_putChild_9 : decode cX4_putChild 9 = .ok (.aload_n 0, 1) := by decide +kernel
theorem dX4_putChild_10 : decode cX4_putChild 10 = .ok (.getfield 7, 3) := by decide +kernel
theorem dX4_putChild_13 : decode cX4_putChild 13 = .ok (.iconst 0, 1) := by decide +kernel
theorem dX4_putChild_14 : decode cX4_putChild 14 = .ok (.iload 4, 2) := by decide +kernel
theorem dX4_putChild_16 : decode cX4_putChild 16 = .ok (.iadd, 1) := by decide +kernel
theorem dX4_putChild_17 : decode cX4_putChild 17 = .ok (.iload_n 3, 1) := by decide +kernel
theorem dX4_putChild_18 : decode cX4_putChild 18 = .ok (.iastore, 1) := by decide +kernel
theorem dX4_putChild_19 : decode cX4_putChild 19 = .ok (.aload_n 0, 1) := by decide +kernel
theorem dX4_putChild_20 : decode cX4_putChild 20 = .ok (.getfield 7, 3) := by decide +kernel
theorem dX4_putChild_23 : decode cX4_putChild 23 = .ok (.sipush 160, 3) := by decide +kernel
theorem dX4_putChild_26 : decode cX4_putChild 26 = .ok (.iload 4, 2) := by decide +kernel
theorem dX4_putChild_28 : decode cX4_putChild 28 = .ok (.iadd, 1) := by decide +kernel
theorem dX4_putChild_29 : decode cX4_putChild 29 = .ok (.iload_n 1, 1) := by decide +kernel
theorem dX4_putChild_30 : decode cX4_putChild 30 = .ok (.iastore, 1) := by decide +kernel
theorem dX4_putChild_31 : decode cX4_putChild 31 = .ok (.aload_n 0, 1) := by decide +kernel
theorem dX4_putChild_32 : decode cX4_putChild 32 = .ok (.getfield 7, 3) := by decide +kernel
theorem dX4_putChild_35 : decode cX4_putChild 35 = .ok (.sipush 320, 3) := by decide +kernel
theorem dX4_putChild_38 : decode cX4_putChild 38 = .ok (.iload 4, 2) := by decide +kernel
theorem dX4_putChild_40 : decode cX4_putChild 40 = .ok (.iadd, 1) := by decide +kernel
theorem dX4_putChild_41 : decode cX4_putChild 41 = .ok (.iload_n 2, 1) := by decide +kernel
theorem dX4_putChild_42 : decode cX4_putChild 42 = .ok (.iastore, 1) := by decide +kernel
theorem dX4_putChild_43 : decode cX4_putChild 43 = .ok (.aload_n 0, 1) := by decide +kernel
theorem dX4_putChild_44 : decode cX4_putChild 44 = .ok (.getfield 7, 3) := by decide +kernel
theorem dX4_putChild_47 : decode cX4_putChild 47 = .ok (.sipush 480, 3) := by decide +kernel
theorem dX4_putChild_50 : decode cX4_putChild 50 = .ok (.iload 4, 2) := by decide +kernel
theorem dX4_putChild_52 : decode cX4_putChild 52 = .ok (.iadd, 1) := by decide +kernel
theorem dX4_putChild_53 : decode cX4_putChild 53 = .ok (.iconst 0, 1) := by decide +kernel
theorem dX4_putChild_54 : decode cX4_putChild 54 = .ok (.iastore, 1) := by decide +kernel
theorem dX4_putChild_55 : decode cX4_putChild 55 = .ok (.aload_n 0, 1) := by decide +kernel
theorem dX4_putChild_56 : decode cX4_putChild 56 = .ok (.getfield 7, 3) := by decide +kernel
theorem dX4_putChild_59 : decode cX4_putChild 59 = .ok (.sipush 640, 3) := by decide +kernel
theorem dX4_putChild_62 : decode cX4_putChild 62 = .ok (.iload 4, 2) := by decide +kernel
theorem dX4_putChild_64 : decode cX4_putChild 64 = .ok (.iadd, 1) := by decide +kernel
theorem dX4_putChild_65 : decode cX4_putChild 65 = .ok (.iconst (-1), 1) := by decide +kernel
theorem dX4_putChild_66 : decode cX4_putChild 66 = .ok (.iastore, 1) := by decide +kernel
theorem dX4_putChild_67 : decode cX4_putChild 67 = .ok (.iload 4, 2) := by decide +kernel
theorem dX4_putChild_69 : decode cX4_putChild 69 = .ok (.ireturn, 1) := by decide +kernel
theorem dX4_usersOf_0 : decode cX4_usersOf 0 = .ok (.aload_n 0, 1) := by decide +kernel
theorem dX4_usersOf_1 : decode cX4_usersOf 1 = .ok (.getfield 7, 3) := by decide +kernel
theorem dX4_usersOf_4 : decode cX4_usersOf 4 = .ok (.sipush 800, 3) := by decide +kernel
theorem dX4_usersOf_7 : decode cX4_usersOf 7 = .ok (.bipush 14, 2) := by decide +kernel
theorem dX4_usersOf_9 : decode cX4_usersOf 9 = .ok (.iload_n 1, 1) := by decide +kernel
theorem dX4_usersOf_10 : decode cX4_usersOf 10 = .ok (.imul, 1) := by decide +kernel
theorem dX4_usersOf_11 : decode cX4_usersOf 11 = .ok (.iadd, 1) := by decide +kernel
theorem dX4_usersOf_12 : decode cX4_usersOf 12 = .ok (.iaload, 1) := by decide +kernel
theorem dX4_usersOf_13 : decode cX4_usersOf 13 = .ok (.ireturn, 1) := by decide +kernel
theorem dX4_lengthOf_0 : decode cX4_lengthOf 0 = .ok (.aload_n 0, 1) := by decide +kernel
theorem dX4_lengthOf_1 : decode cX4_lengthOf 1 = .ok (.getfield 7, 3) := by decide +kernel
theorem dX4_lengthOf_4 : decode cX4_lengthOf 4 = .ok (.sipush 800, 3) := by decide +kernel
theorem dX4_lengthOf_7 : decode cX4_lengthOf 7 = .ok (.bipush 14, 2) := by decide +kernel
theorem dX4_lengthOf_9 : decode cX4_lengthOf 9 = .ok (.iload_n 1, 1) := by decide +kernel
theorem dX4_lengthOf_10 : decode cX4_lengthOf 10 = .ok (.imul, 1) := by decide +kernel
theorem dX4_lengthOf_11 : decode cX4_lengthOf 11 = .ok (.iadd, 1) := by decide +kernel
theorem dX4_lengthOf_12 : decode cX4_lengthOf 12 = .ok (.iconst 1, 1) := by decide +kernel
theorem dX4_lengthOf_13 : decode cX4_lengthOf 13 = .ok (.iadd, 1) := by decide +kernel
theorem dX4_lengthOf_14 : decode cX4_lengthOf 14 = .ok (.iaload, 1) := by decide +kernel
theorem dX4_lengthOf_15 : decode cX4_lengthOf 15 = .ok (.ireturn, 1) := by decide +kernel
theorem dX4_letterOf_0 : decode cX4_letterOf 0 = .ok (.aload_n 0, 1) := by decide +kernel
theorem dX4_letterOf_1 : decode cX4_letterOf 1 = .ok (.getfield 7, 3) := by decide +kernel
theorem dX4_letterOf_4 : decode cX4_letterOf 4 = .ok (.sipush 800, 3) := by decide +kernel
theorem dX4_letterOf_7 : decode cX4_letterOf 7 = .ok (.bipush 14, 2) := by decide +kernel
theorem dX4_letterOf_9 : decode cX4_letterOf 9 = .ok (.iload_n 1, 1) := by decide +kernel
theorem dX4_letterOf_10 : decode cX4_letterOf 10 = .ok (.imul, 1) := by decide +kernel
theorem dX4_letterOf_11 : decode cX4_letterOf 11 = .ok (.iadd, 1) := by decide +kernel
theorem dX4_letterOf_12 : decode cX4_letterOf 12 = .ok (.iconst 2, 1) := by decide +kernel
theorem dX4_letterOf_13 : decode cX4_letterOf 13 = .ok (.iadd, 1) := by decide +kernel
theorem dX4_letterOf_14 : decode cX4_letterOf 14 = .ok (.iload_n 2, 1) := by decide +kernel
theorem dX4_letterOf_15 : decode cX4_letterOf 15 = .ok (.iadd, 1) := by decide +kernel
theorem dX4_letterOf_16 : decode cX4_letterOf 16 = .ok (.iaload, 1) := by decide +kernel
theorem dX4_letterOf_17 : decode cX4_letterOf 17 = .ok (.ireturn, 1) := by decide +kernel
set_option maxRecDepth 20000 in
theorem ggX4_isEnd_X4_usersOf : GoodIn wsX4_isEnd wsX4_usersOf := goodIn_r _ [5, 6, 15, 16, 17, 18, 19, 20, 21, 22, 23, 24, 25, 26, 27, 28, 29, 30] (by decide +kernel) (by decide +kernel)
set_option maxRecDepth 20000 in
theorem gX4_isEnd_X4_usersOf : GoodIn wsX4_isEnd (wsV RX4 83 RX4 yX4_usersOf wsX4_usersOf) := goodIn_app (goodIn_of _ (by decide +kernel)) ggX4_isEnd_X4_usersOf
set_option maxRecDepth 20000 in
theorem ggX4_isEnd_X4_lengthOf : GoodIn wsX4_isEnd wsX4_lengthOf := goodIn_r _ [10, 6, 15, 16, 17, 18, 19, 20, 21, 22, 23, 24, 25, 26, 27, 28, 29, 30] (by decide +kernel) (by decide +kernel)
set_option maxRecDepth 20000 in
theorem gX4_isEnd_X4_lengthOf : GoodIn wsX4_isEnd (wsV RX4 86 RX4 yX4_lengthOf wsX4_lengthOf) := goodIn_app (goodIn_of _ (by decide +kernel)) ggX4_isEnd_X4_lengthOf
set_option maxRecDepth 20000 in
theorem ggX4_isEnd_X4_letterOf : GoodIn wsX4_isEnd wsX4_letterOf := goodIn_r _ [14, 6, 15, 16, 17, 18, 19, 20, 21, 22, 23, 24, 25, 26, 27, 28, 29, 30] (by decide +kernel) (by decide +kernel)
set_option maxRecDepth 20000 in
theorem gX4_isEnd_X4_letterOf : GoodIn wsX4_isEnd (wsV RX4 89 RX4 yX4_letterOf wsX4_letterOf) := goodIn_app (goodIn_of _ (by decide +kernel)) ggX4_isEnd_X4_letterOf
theorem dX4_isEnd_0 : decode cX4_isEnd 0 = .ok (.aload_n 0, 1) := by decide +kernel
theorem dX4_isEnd_1 : decode cX4_isEnd 1 = .ok (.iload_n 1, 1) := by decide +kernel
theorem dX4_isEnd_2 : decode cX4_isEnd 2 = .ok (.invokevirtual 83, 3) := by decide +kernel
theorem dX4_isEnd_5 : decode cX4_isEnd 5 = .ok (.ifCond .le 19, 3) := by decide +kernel
theorem dX4_isEnd_8 : decode cX4_isEnd 8 = .ok (.aload_n 0, 1) := by decide +kernel
theorem dX4_isEnd_9 : decode cX4_isEnd 9 = .ok (.iload_n 1, 1) := by decide +kernel
theorem dX4_isEnd_10 : decode cX4_isEnd 10 = .ok (.invokevirtual 86, 3) := by decide +kernel
theorem dX4_isEnd_13 : decode cX4_isEnd 13 = .ok (.iload 4, 2) := by decide +kernel
theorem dX4_isEnd_15 : decode cX4_isEnd 15 = .ok (.iload_n 3, 1) := by decide +kernel
theorem dX4_isEnd_16 : decode cX4_isEnd 16 = .ok (.isub, 1) := by decide +kernel
theorem dX4_isEnd_17 : decode cX4_isEnd 17 = .ok (.if_icmp .ne 7, 3) := by decide +kernel
theorem dX4_isEnd_20 : decode cX4_isEnd 20 = .ok (.iconst 1, 1) := by decide +kernel
theorem dX4_isEnd_21 : decode cX4_isEnd 21 = .ok (.goto 4, 3) := by decide +kernel
theorem dX4_isEnd_24 : decode cX4_isEnd 24 = .ok (.iconst 0, 1) := by decide +kernel
theorem dX4_isEnd_25 : decode cX4_isEnd 25 = .ok (.istore 5, 2) := by decide +kernel
theorem dX4_isEnd_27 : decode cX4_isEnd 27 = .ok (.iload_n 3, 1) := by decide +kernel
theorem dX4_isEnd_28 : decode cX4_isEnd 28 = .ok (.istore 6, 2) := by decide +kernel
theorem dX4_isEnd_30 : decode cX4_isEnd 30 = .ok (.iload 6, 2) := by decide +kernel
theorem dX4_isEnd_32 : decode cX4_isEnd 32 = .ok (.iload 4, 2) := by decide +kernel
theorem dX4_isEnd_34 : decode cX4_isEnd 34 = .ok (.if_icmp .ge 37, 3) := by decide +kernel
theorem dX4_isEnd_37 : decode cX4_isEnd 37 = .ok (.iload 5, 2) := by decide +kernel
theorem dX4_isEnd_39 : decode cX4_isEnd 39 = .ok (.ifCond .eq 32, 3) := by decide +kernel
theorem dX4_isEnd_42 : decode cX4_isEnd 42 = .ok (.aload_n 0, 1) := by decide +kernel
theorem dX4_isEnd_43 : decode cX4_isEnd 43 = .ok (.iload_n 1, 1) := by decide +kernel
theorem dX4_isEnd_44 : decode cX4_isEnd 44 = .ok (.iload 6, 2) := by decide +kernel
theorem dX4_isEnd_46 : decode cX4_isEnd 46 = .ok (.iload_n 3, 1) := by decide +kernel
theorem dX4_isEnd_47 : decode cX4_isEnd 47 = .ok (.isub, 1) := by decide +kernel
theorem dX4_isEnd_48 : decode cX4_isEnd 48 = .ok (.invokevirtual 89, 3) := by decide +kernel
theorem dX4_isEnd_51 : decode cX4_isEnd 51 = .ok (.aload_n 2, 1) := by decide +kernel
theorem dX4_isEnd_52 : decode cX4_isEnd 52 = .ok (.iload 6, 2) := by decide +kernel
theorem dX4_isEnd_54 : decode cX4_isEnd 54 = .ok (.iaload, 1) := by decide +kernel
theorem dX4_isEnd_55 : decode cX4_isEnd 55 = .ok (.if_icmp .ne 7, 3) := by decide +kernel
theorem dX4_isEnd_58 : decode cX4_isEnd 58 = .ok (.iconst 1, 1) := by decide +kernel
theorem dX4_isEnd_59 : decode cX4_isEnd 59 = .ok (.goto 4, 3) := by decide +kernel
theorem dX4_isEnd_62 : decode cX4_isEnd 62 = .ok (.iconst 0, 1) := by decide +kernel
theorem dX4_isEnd_63 : decode cX4_isEnd 63 = .ok (.istore 5, 2) := by decide +kernel
theorem dX4_isEnd_65 : decode cX4_isEnd 65 = .ok (.iinc 6 1, 3) := by decide +kernel
theorem dX4_isEnd_68 : decode cX4_isEnd 68 = .ok (.goto (-38), 3) := by decide +kernel
theorem dX4_isEnd_71 : decode cX4_isEnd 71 = .ok (.iload 5, 2) := by decide +kernel
theorem dX4_isEnd_73 : decode cX4_isEnd 73 = .ok (.ireturn, 1) := by decide +kernel
set_option maxRecDepth 20000 in
theorem ggX4_placeFor_X4_usersOf : GoodIn wsX4_placeFor wsX4_usersOf := goodIn_r _ [5, 6, 19, 20, 21, 22, 23, 24, 25, 26, 27, 28, 29, 30, 31, 32, 33, 34] (by decide +kernel) (by decide +kernel)
set_option maxRecDepth 20000 in
theorem gX4_placeFor_X4_usersOf : GoodIn wsX4_placeFor (wsV RX4 83 RX4 yX4_usersOf wsX4_usersOf) := goodIn_app (goodIn_of _ (by decide +kernel)) ggX4_placeFor_X4_usersOf
set_option maxRecDepth 20000 in
theorem ggX4_placeFor_X4_isEnd : GoodIn wsX4_placeFor wsX4_isEnd := goodIn_r _ [10, 1, 2, 3, 4, 5, 6, 11, 12, 13, 14, 15, 16, 17, 18, 19, 20, 21, 22, 23, 24, 25, 26, 27, 28, 29, 30, 31, 32, 33, 34] (by decide +kernel) (by decide +kernel)
set_option maxRecDepth 20000 in
theorem gX4_placeFor_X4_isEnd : GoodIn wsX4_placeFor (wsV RX4 92 RX4 yX4_isEnd wsX4_isEnd) := goodIn_app (goodIn_of _ (by decide +kernel)) ggX4_placeFor_X4_isEnd
theorem dX4_placeFor_0 : decode cX4_placeFor 0 = .ok (.iconst (-1), 1) := by decide +kernel
theorem dX4_placeFor_1 : decode cX4_placeFor 1 = .ok (.istore 4, 2) := by decide +kernel
theorem dX4_placeFor_3 : decode cX4_placeFor 3 = .ok (.bipush 39, 2) := by decide +kernel
theorem dX4_placeFor_5 : decode cX4_placeFor 5 = .ok (.istore 5, 2) := by decide +kernel
theorem dX4_placeFor_7 : decode cX4_placeFor 7 = .ok (.iload 5, 2) := by decide +kernel
theorem dX4_placeFor_9 : decode cX4_placeFor 9 = .ok (.ifCond .lt 27, 3) := by decide +kernel
theorem dX4_placeFor_12 : decode cX4_placeFor 12 = .ok (.aload_n 0, 1) := by decide +kernel
theorem dX4_placeFor_13 : decode cX4_placeFor 13 = .ok (.iload 5, 2) := by decide +kernel
theorem dX4_placeFor_15 : decode cX4_placeFor 15 = .ok (.invokevirtual 83, 3) := by decide +kernel
theorem dX4_placeFor_18 : decode cX4_placeFor 18 = .ok (.ifCond .ne 8, 3) := by decide +kernel
theorem dX4_placeFor_21 : decode cX4_placeFor 21 = .ok (.iload 5, 2) := by decide +kernel
theorem dX4_placeFor_23 : decode cX4_placeFor 23 = .ok (.goto 5, 3) := by decide +kernel
theorem dX4_placeFor_26 : decode cX4_placeFor 26 = .ok (.iload 4, 2) := by decide +kernel
theorem dX4_placeFor_28 : decode cX4_placeFor 28 = .ok (.istore 4, 2) := by decide +kernel
theorem dX4_placeFor_30 : decode cX4_placeFor 30 = .ok (.iinc 5 (-1), 3) := by decide +kernel
theorem dX4_placeFor_33 : decode cX4_placeFor 33 = .ok (.goto (-26), 3) := by decide +kernel
theorem dX4_placeFor_36 : decode cX4_placeFor 36 = .ok (.iconst 0, 1) := by decide +kernel
theorem dX4_placeFor_37 : decode cX4_placeFor 37 = .ok (.istore 5, 2) := by decide +kernel
theorem dX4_placeFor_39 : decode cX4_placeFor 39 = .ok (.iload 5, 2) := by decide +kernel
theorem dX4_placeFor_41 : decode cX4_placeFor 41 = .ok (.bipush 40, 2) := by decide +kernel
theorem dX4_placeFor_43 : decode cX4_placeFor 43 = .ok (.if_icmp .ge 30, 3) := by decide +kernel
theorem dX4_placeFor_46 : decode cX4_placeFor 46 = .ok (.aload_n 0, 1) := by decide +kernel
theorem dX4_placeFor_47 : decode cX4_placeFor 47 = .ok (.iload 5, 2) := by decide +kernel
theorem dX4_placeFor_49 : decode cX4_placeFor 49 = .ok (.aload_n 1, 1) := by decide +kernel
theorem dX4_placeFor_50 : decode cX4_placeFor 50 = .ok (.iload_n 2, 1) := by decide +kernel
theorem dX4_placeFor_51 : decode cX4_placeFor 51 = .ok (.iload_n 3, 1) := by decide +kernel
theorem dX4_placeFor_52 : decode cX4_placeFor 52 = .ok (.invokevirtual 92, 3) := by decide +kernel
theorem dX4_placeFor_55 : decode cX4_placeFor 55 = .ok (.ifCond .eq 8, 3) := by decide +kernel
theorem dX4_placeFor_58 : decode cX4_placeFor 58 = .ok (.iload 5, 2) := by decide +kernel
theorem dX4_placeFor_60 : decode cX4_placeFor 60 = .ok (.goto 5, 3) := by decide +kernel
theorem dX4_placeFor_63 : decode cX4_placeFor 63 = .ok (.iload 4, 2) := by decide +kernel
theorem dX4_placeFor_65 : decode cX4_placeFor 65 = .ok (.istore 4, 2) := by decide +kernel
theorem dX4_placeFor_67 : decode cX4_placeFor 67 = .ok (.iinc 5 1, 3) := by decide +kernel
theorem dX4_placeFor_70 : decode cX4_placeFor 70 = .ok (.goto (-31), 3) := by decide +kernel
theorem dX4_placeFor_73 : decode cX4_placeFor 73 = .ok (.iload 4, 2) := by decide +kernel
theorem dX4_placeFor_75 : decode cX4_placeFor 75 = .ok (.ireturn, 1) := by decide +kernel
set_option maxRecDepth 20000 in
theorem ggX4_giveEnd_X4_placeFor : GoodIn wsX4_giveEnd wsX4_placeFor := goodIn_r _ [6, 7, 8, 9, 5, 10, 1, 11, 12, 13, 14, 15, 16, 17, 18, 19, 20, 21, 22, 23, 24, 25, 26, 27, 28, 29, 30, 31, 32, 33, 34, 35, 36, 37, 38] (by decide +kernel) (by decide +kernel)
set_option maxRecDepth 20000 in
theorem gX4_giveEnd_X4_placeFor : GoodIn wsX4_giveEnd (wsV RX4 96 RX4 yX4_placeFor wsX4_placeFor) := goodIn_app (goodIn_of _ (by decide +kernel)) ggX4_giveEnd_X4_placeFor
theorem dX4_giveEnd_0 : decode cX4_giveEnd 0 = .ok (.aload_n 0, 1) := by decide +kernel
theorem dX4_giveEnd_1 : decode cX4_giveEnd 1 = .ok (.aload_n 2, 1) := by decide +kernel
theorem dX4_giveEnd_2 : decode cX4_giveEnd 2 = .ok (.iload_n 3, 1) := by decide +kernel
theorem dX4_giveEnd_3 : decode cX4_giveEnd 3 = .ok (.iload 4, 2) := by decide +kernel
theorem dX4_giveEnd_5 : decode cX4_giveEnd 5 = .ok (.invokevirtual 96, 3) := by decide +kernel
theorem dX4_giveEnd_8 : decode cX4_giveEnd 8 = .ok (.istore 5, 2) := by decide +kernel
theorem dX4_giveEnd_10 : decode cX4_giveEnd 10 = .ok (.iload 5, 2) := by decide +kernel
theorem dX4_giveEnd_12 : decode cX4_giveEnd 12 = .ok (.iconst (-1), 1) := by decide +kernel
theorem dX4_giveEnd_13 : decode cX4_giveEnd 13 = .ok (.if_icmp .ne 5, 3) := by decide +kernel
theorem dX4_giveEnd_16 : decode cX4_giveEnd 16 = .ok (.iconst 0, 1) := by decide +kernel
theorem dX4_giveEnd_17 : decode cX4_giveEnd 17 = .ok (.ireturn, 1) := by decide +kernel
theorem dX4_giveEnd_18 : decode cX4_giveEnd 18 = .ok (.sipush 800, 3) := by decide +kernel
theorem dX4_giveEnd_21 : decode cX4_giveEnd 21 = .ok (.bipush 14, 2) := by decide +kernel
theorem dX4_giveEnd_23 : decode cX4_giveEnd 23 = .ok (.iload 5, 2) := by decide +kernel
theorem dX4_giveEnd_25 : decode cX4_giveEnd 25 = .ok (.imul, 1) := by decide +kernel
theorem dX4_giveEnd_26 : decode cX4_giveEnd 26 = .ok (.iadd, 1) := by decide +kernel
theorem dX4_giveEnd_27 : decode cX4_giveEnd 27 = .ok (.istore 6, 2) := by decide +kernel
theorem dX4_giveEnd_29 : decode cX4_giveEnd 29 = .ok (.aload_n 0, 1) := by decide +kernel
theorem dX4_giveEnd_30 : decode cX4_giveEnd 30 = .ok (.getfield 7, 3) := by decide +kernel
theorem dX4_giveEnd_33 : decode cX4_giveEnd 33 = .ok (.iload 6, 2) := by decide +kernel
theorem dX4_giveEnd_35 : decode cX4_giveEnd 35 = .ok (.dup2, 1) := by decide +kernel
theorem dX4_giveEnd_36 : decode cX4_giveEnd 36 = .ok (.iaload, 1) := by decide +kernel
theorem dX4_giveEnd_37 : decode cX4_giveEnd 37 = .ok (.iconst 1, 1) := by decide +kernel
theorem dX4_giveEnd_38 : decode cX4_giveEnd 38 = .ok (.iadd, 1) := by decide +kernel
theorem dX4_giveEnd_39 : decode cX4_giveEnd 39 = .ok (.iastore, 1) := by decide +kernel
theorem dX4_giveEnd_40 : decode cX4_giveEnd 40 = .ok (.aload_n 0, 1) := by decide +kernel
theorem dX4_giveEnd_41 : decode cX4_giveEnd 41 = .ok (.getfield 7, 3) := by decide +kernel
theorem dX4_giveEnd_44 : decode cX4_giveEnd 44 = .ok (.iload 6, 2) := by decide +kernel
theorem dX4_giveEnd_46 : decode cX4_giveEnd 46 = .ok (.iconst 1, 1) := by decide +kernel
theorem dX4_giveEnd_47 : decode cX4_giveEnd 47 = .ok (.iadd, 1) := by decide +kernel
theorem dX4_giveEnd_48 : decode cX4_giveEnd 48 = .ok (.iload 4, 2) := by decide +kernel
theorem dX4_giveEnd_50 : decode cX4_giveEnd 50 = .ok (.iload_n 3, 1) := by decide +kernel
theorem dX4_giveEnd_51 : decode cX4_giveEnd 51 = .ok (.isub, 1) := by decide +kernel
theorem dX4_giveEnd_52 : decode cX4_giveEnd 52 = .ok (.iastore, 1) := by decide +kernel
theorem dX4_giveEnd_53 : decode cX4_giveEnd 53 = .ok (.iconst 0, 1) := by decide +kernel
theorem dX4_giveEnd_54 : decode cX4_giveEnd 54 = .ok (.istore 7, 2) := by decide +kernel
theorem dX4_giveEnd_56 : decode cX4_giveEnd 56 = .ok (.iload 7, 2) := by decide +kernel
theorem dX4_giveEnd_58 : decode cX4_giveEnd 58 = .ok (.bipush 12, 2) := by decide +kernel
theorem dX4_giveEnd_60 : decode cX4_giveEnd 60 = .ok (.if_icmp .ge 40, 3) := by decide +kernel
theorem dX4_giveEnd_63 : decode cX4_giveEnd 63 = .ok (.aload_n 0, 1) := by decide +kernel
theorem dX4_giveEnd_64 : decode cX4_giveEnd 64 = .ok (.getfield 7, 3) := by decide +kernel
theorem dX4_giveEnd_67 : decode cX4_giveEnd 67 = .ok (.iload 6, 2) := by decide +kernel
theorem dX4_giveEnd_69 : decode cX4_giveEnd 69 = .ok (.iconst 2, 1) := by decide +kernel
theorem dX4_giveEnd_70 : decode cX4_giveEnd 70 = .ok (.iadd, 1) := by decide +kernel
theorem dX4_giveEnd_71 : decode cX4_giveEnd 71 = .ok (.iload 7, 2) := by decide +kernel
theorem dX4_giveEnd_73 : decode cX4_giveEnd 73 = .ok (.iadd, 1) := by decide +kernel
theorem dX4_giveEnd_74 : decode cX4_giveEnd 74 = .ok (.iload_n 3, 1) := by decide +kernel
theorem dX4_giveEnd_75 : decode cX4_giveEnd 75 = .ok (.iload 7, 2) := by decide +kernel
theorem dX4_giveEnd_77 : decode cX4_giveEnd 77 = .ok (.iadd, 1) := by decide +kernel
theorem dX4_giveEnd_78 : decode cX4_giveEnd 78 = .ok (.iload 4, 2) := by decide +kernel
theorem dX4_giveEnd_80 : decode cX4_giveEnd 80 = .ok (.if_icmp .ge 12, 3) := by decide +kernel
theorem dX4_giveEnd_83 : decode cX4_giveEnd 83 = .ok (.aload_n 2, 1) := by decide +kernel
theorem dX4_giveEnd_84 : decode cX4_giveEnd 84 = .ok (.iload_n 3, 1) := by decide +kernel
theorem dX4_giveEnd_85 : decode cX4_giveEnd 85 = .ok (.iload 7, 2) := by decide +kernel
theorem dX4_giveEnd_87 : decode cX4_giveEnd 87 = .ok (.iadd, 1) := by decide +kernel
theorem dX4_giveEnd_88 : decode cX4_giveEnd 88 = .ok (.iaload, 1) := by decide +kernel
theorem dX4_giveEnd_89 : decode cX4_giveEnd 89 = .ok (.goto 4, 3) := by decide +kernel
theorem dX4_giveEnd_92 : decode cX4_giveEnd 92 = .ok (.iconst 0, 1) := by decide +kernel
theorem dX4_giveEnd_93 : decode cX4_giveEnd 93 = .ok (.iastore, 1) := by decide +kernel
theorem dX4_giveEnd_94 : decode cX4_giveEnd 94 = .ok (.iinc 7 1, 3) := by decide +kernel
theorem dX4_giveEnd_97 : decode cX4_giveEnd 97 = .ok (.goto (-41), 3) := by decide +kernel
theorem dX4_giveEnd_100 : decode cX4_giveEnd 100 = .ok (.aload_n 0, 1) := by decide +kernel
theorem dX4_giveEnd_101 : decode cX4_giveEnd 101 = .ok (.getfield 7, 3) := by decide +kernel
theorem dX4_giveEnd_104 : decode cX4_giveEnd 104 = .ok (.sipush 640, 3) := by decide +kernel
theorem dX4_giveEnd_107 : decode cX4_giveEnd 107 = .ok (.iload_n 1, 1) := by decide +kernel
theorem dX4_giveEnd_108 : decode cX4_giveEnd 108 = .ok (.iadd, 1) := by decide +kernel
theorem dX4_giveEnd_109 : decode cX4_giveEnd 109 = .ok (.iload 5, 2) := by decide +kernel
theorem dX4_giveEnd_111 : decode cX4_giveEnd 111 = .ok (.iastore, 1) := by decide +kernel
theorem dX4_giveEnd_112 : decode cX4_giveEnd 112 = .ok (.iconst 1, 1) := by decide +kernel
theorem dX4_giveEnd_113 : decode cX4_giveEnd 113 = .ok (.ireturn, 1) := by decide +kernel
theorem dX4_dropEnd_0 : decode cX4_dropEnd 0 = .ok (.sipush 800, 3) := by decide +kernel
theorem dX4_dropEnd_3 : decode cX4_dropEnd 3 = .ok (.bipush 14, 2) := by decide +kernel
theorem dX4_dropEnd_5 : decode cX4_dropEnd 5 = .ok (.aload_n 0, 1) := by decide +kernel
theorem dX4_dropEnd_6 : decode cX4_dropEnd 6 = .ok (.getfield 7, 3) := by decide +kernel
theorem dX4_dropEnd_9 : decode cX4_dropEnd 9 = .ok (.sipush 640, 3) := by decide +kernel
theorem dX4_dropEnd_12 : decode cX4_dropEnd 12 = .ok (.iload_n 1, 1) := by decide +kernel
theorem dX4_dropEnd_13 : decode cX4_dropEnd 13 = .ok (.iadd, 1) := by decide +kernel
theorem dX4_dropEnd_14 : decode cX4_dropEnd 14 = .ok (.iaload, 1) := by decide +kernel
theorem dX4_dropEnd_15 : decode cX4_dropEnd 15 = .ok (.imul, 1) := by decide +kernel
theorem dX4_dropEnd_16 : decode cX4_dropEnd 16 = .ok (.iadd, 1) := by decide +kernel
theorem dX4_dropEnd_17 : decode cX4_dropEnd 17 = .ok (.istore_n 2, 1) := by decide +kernel
theorem dX4_dropEnd_18 : decode cX4_dropEnd 18 = .ok (.aload_n 0, 1) := by decide +kernel
theorem dX4_dropEnd_19 : decode cX4_dropEnd 19 = .ok (.getfield 7, 3) := by decide +kernel
theorem dX4_dropEnd_22 : decode cX4_dropEnd 22 = .ok (.sipush 640, 3) := by decide +kernel
theorem dX4_dropEnd_25 : decode cX4_dropEnd 25 = .ok (.iload_n 1, 1) := by decide +kernel
theorem dX4_dropEnd_26 : decode cX4_dropEnd 26 = .ok (.iadd, 1) := by decide +kernel
theorem dX4_dropEnd_27 : decode cX4_dropEnd 27 = .ok (.iconst (-1), 1) := by decide +kernel
theorem dX4_dropEnd_28 : decode cX4_dropEnd 28 = .ok (.iastore, 1) := by decide +kernel
theorem dX4_dropEnd_29 : decode cX4_dropEnd 29 = .ok (.aload_n 0, 1) := by decide +kernel
theorem dX4_dropEnd_30 : decode cX4_dropEnd 30 = .ok (.getfield 7, 3) := by decide +kernel
theorem dX4_dropEnd_33 : decode cX4_dropEnd 33 = .ok (.iload_n 2, 1) := by decide +kernel
theorem dX4_dropEnd_34 : decode cX4_dropEnd 34 = .ok (.dup2, 1) := by decide +kernel
theorem dX4_dropEnd_35 : decode cX4_dropEnd 35 = .ok (.iaload, 1) := by decide +kernel
theorem dX4_dropEnd_36 : decode cX4_dropEnd 36 = .ok (.iconst 1, 1) := by decide +kernel
theorem dX4_dropEnd_37 : decode cX4_dropEnd 37 = .ok (.isub, 1) := by decide +kernel
theorem dX4_dropEnd_38 : decode cX4_dropEnd 38 = .ok (.iastore, 1) := by decide +kernel
theorem dX4_dropEnd_39 : decode cX4_dropEnd 39 = .ok (.iconst 1, 1) := by decide +kernel
theorem dX4_dropEnd_40 : decode cX4_dropEnd 40 = .ok (.istore_n 3, 1) := by decide +kernel
theorem dX4_dropEnd_41 : decode cX4_dropEnd 41 = .ok (.iload_n 3, 1) := by decide +kernel
theorem dX4_dropEnd_42 : decode cX4_dropEnd 42 = .ok (.bipush 14, 2) := by decide +kernel
theorem dX4_dropEnd_44 : decode cX4_dropEnd 44 = .ok (.if_icmp .ge 27, 3) := by decide +kernel
theorem dX4_dropEnd_47 : decode cX4_dropEnd 47 = .ok (.aload_n 0, 1) := by decide +kernel
theorem dX4_dropEnd_48 : decode cX4_dropEnd 48 = .ok (.getfield 7, 3) := by decide +kernel
theorem dX4_dropEnd_51 : decode cX4_dropEnd 51 = .ok (.iload_n 2, 1) := by decide +kernel
theorem dX4_dropEnd_52 : decode cX4_dropEnd 52 = .ok (.iaload, 1) := by decide +kernel
theorem dX4_dropEnd_53 : decode cX4_dropEnd 53 = .ok (.ifCond .ne 18, 3) := by decide +kernel
theorem dX4_dropEnd_56 : decode cX4_dropEnd 56 = .ok (.aload_n 0, 1) := by decide +kernel
theorem dX4_dropEnd_57 : decode cX4_dropEnd 57 = .ok (.getfield 7, 3) := by decide +kernel
theorem dX4_dropEnd_60 : decode cX4_dropEnd 60 = .ok (.iload_n 2, 1) := by decide +kernel
theorem dX4_dropEnd_61 : decode cX4_dropEnd 61 = .ok (.iload_n 3, 1) := by decide +kernel
theorem dX4_dropEnd_62 : decode cX4_dropEnd 62 = .ok (.iadd, 1) := by decide +kernel
theorem dX4_dropEnd_63 : decode cX4_dropEnd 63 = .ok (.iconst 0, 1) := by decide +kernel
theorem dX4_dropEnd_64 : decode cX4_dropEnd 64 = .ok (.iastore, 1) := by decide +kernel
theorem dX4_dropEnd_65 : decode cX4_dropEnd 65 = .ok (.iinc 3 1, 3) := by decide +kernel
theorem dX4_dropEnd_68 : decode cX4_dropEnd 68 = .ok (.goto (-27), 3) := by decide +kernel
theorem dX4_dropEnd_71 : decode cX4_dropEnd 71 = .ok (.return_, 1) := by decide +kernel
set_option maxRecDepth 20000 in
theorem ggX4_addLeaf_X4_offset : GoodIn wsX4_addLeaf wsX4_offset := goodIn_r _ [6, 7, 79, 80, 81, 82, 83, 84, 85, 86, 87, 88, 89, 90, 91, 92, 93, 94] (by decide +kernel) (by decide +kernel)
set_option maxRecDepth 20000 in
theorem gX4_addLeaf_X4_offset : GoodIn wsX4_addLeaf (wsV RX4 51 RX4 yX4_offset wsX4_offset) := goodIn_app (goodIn_of _ (by decide +kernel)) ggX4_addLeaf_X4_offset
set_option maxRecDepth 20000 in
theorem ggX4_addLeaf_X4_open : GoodIn wsX4_addLeaf wsX4_open := goodIn_r _ [11, 7, 12, 13, 14, 5, 15, 16, 17, 18, 19, 20, 21, 22, 23, 79, 80, 81, 82, 83, 84, 85, 86, 87, 88, 89, 90, 91, 92, 93, 94] (by decide +kernel) (by decide +kernel)
set_option maxRecDepth 20000 in
theorem gX4_addLeaf_X4_open : GoodIn wsX4_addLeaf (wsV RX4 100 RX4 yX4_open wsX4_open) := goodIn_app (goodIn_of _ (by decide +kernel)) ggX4_addLeaf_X4_open
set_option maxRecDepth 20000 in
theorem ggX4_addLeaf_X4_makeRoom : GoodIn wsX4_addLeaf wsX4_makeRoom := goodIn_r _ [27, 7, 2, 3, 4, 5, 6, 20, 21, 22, 23, 28, 29, 30, 31, 32, 33, 34, 35, 36, 37, 38, 12, 13, 14, 15, 16, 17, 18, 19, 39, 40, 41, 42, 43, 44, 45, 46, 47, 48, 49, 50, 79, 80, 81, 82, 83, 84, 85, 86, 87, 88, 89, 90, 91, 92, 93, 94] (by decide +kernel) (by decide +kernel)
set_option maxRecDepth 20000 in
theorem gX4_addLeaf_X4_makeRoom : GoodIn wsX4_addLeaf (wsV RX4 103 RX4 yX4_makeRoom wsX4_makeRoom) := goodIn_app (goodIn_of _ (by decide +kernel)) ggX4_addLeaf_X4_makeRoom
set_option maxRecDepth 20000 in
theorem ggX4_addLeaf_X4_putChild : GoodIn wsX4_addLeaf wsX4_putChild := goodIn_r _ [54, 7, 2, 3, 4, 5, 6, 79, 80, 81, 82, 83, 84, 85, 86, 87, 88, 89, 90, 91, 92, 93, 94] (by decide +kernel) (by decide +kernel)
set_option maxRecDepth 20000 in
theorem gX4_addLeaf_X4_putChild : GoodIn wsX4_addLeaf (wsV RX4 106 RX4 yX4_putChild wsX4_putChild) := goodIn_app (goodIn_of _ (by decide +kernel)) ggX4_addLeaf_X4_putChild
set_option maxRecDepth 20000 in
theorem ggX4_addLeaf_X4_giveEnd : GoodIn wsX4_addLeaf wsX4_giveEnd := goodIn_r _ [58, 7, 59, 60, 61, 5, 62, 63, 64, 65, 66, 67, 68, 69, 70, 71, 72, 73, 74, 75, 76, 77, 78, 79, 80, 81, 82, 83, 84, 85, 86, 87, 88, 89, 90, 91, 92, 93, 94] (by decide +kernel) (by decide +kernel)
set_option maxRecDepth 20000 in
theorem gX4_addLeaf_X4_giveEnd : GoodIn wsX4_addLeaf (wsV RX4 113 RX4 yX4_giveEnd wsX4_giveEnd) := goodIn_app (goodIn_of _ (by decide +kernel)) ggX4_addLeaf_X4_giveEnd
theorem dX4_addLeaf_0 : decode cX4_addLeaf 0 = .ok (.iload_n 1, 1) := by decide +kernel
theorem dX4_addLeaf_1 : decode cX4_addLeaf 1 = .ok (.istore 6, 2) := by decide +kernel
theorem dX4_addLeaf_3 : decode cX4_addLeaf 3 = .ok (.aload_n 0, 1) := by decide +kernel
theorem dX4_addLeaf_4 : decode cX4_addLeaf 4 = .ok (.iload_n 1, 1) := by decide +kernel
theorem dX4_addLeaf_5 : decode cX4_addLeaf 5 = .ok (.invokevirtual 51, 3) := by decide +kernel
theorem dX4_addLeaf_8 : decode cX4_addLeaf 8 = .ok (.ifCond .ne 24, 3) := by decide +kernel
theorem dX4_addLeaf_11 : decode cX4_addLeaf 11 = .ok (.aload_n 0, 1) := by decide +kernel
theorem dX4_addLeaf_12 : decode cX4_addLeaf 12 = .ok (.iload_n 1, 1) := by decide +kernel
theorem dX4_addLeaf_13 : decode cX4_addLeaf 13 = .ok (.iconst 1, 1) := by decide +kernel
theorem dX4_addLeaf_14 : decode cX4_addLeaf 14 = .ok (.iload_n 2, 1) := by decide +kernel
theorem dX4_addLeaf_15 : decode cX4_addLeaf 15 = .ok (.ishl, 1) := by decide +kernel
theorem dX4_addLeaf_16 : decode cX4_addLeaf 16 = .ok (.invokevirtual 100, 3) := by decide +kernel
theorem dX4_addLeaf_19 : decode cX4_addLeaf 19 = .ok (.ifCond .eq 7, 3) := by decide +kernel
theorem dX4_addLeaf_22 : decode cX4_addLeaf 22 = .ok (.iload_n 1, 1) := by decide +kernel
theorem dX4_addLeaf_23 : decode cX4_addLeaf 23 = .ok (.goto 4, 3) := by decide +kernel
theorem dX4_addLeaf_26 : decode cX4_addLeaf 26 = .ok (.iconst (-1), 1) := by decide +kernel
theorem dX4_addLeaf_27 : decode cX4_addLeaf 27 = .ok (.istore 6, 2) := by decide +kernel
theorem dX4_addLeaf_29 : decode cX4_addLeaf 29 = .ok (.goto 11, 3) := by decide +kernel
theorem dX4_addLeaf_32 : decode cX4_addLeaf 32 = .ok (.aload_n 0, 1) := by decide +kernel
theorem dX4_addLeaf_33 : decode cX4_addLeaf 33 = .ok (.iload_n 1, 1) := by decide +kernel
theorem dX4_addLeaf_34 : decode cX4_addLeaf 34 = .ok (.iload_n 2, 1) := by decide +kernel
theorem dX4_addLeaf_35 : decode cX4_addLeaf 35 = .ok (.invokevirtual 103, 3) := by decide +kernel
theorem dX4_addLeaf_38 : decode cX4_addLeaf 38 = .ok (.istore 6, 2) := by decide +kernel
theorem dX4_addLeaf_40 : decode cX4_addLeaf 40 = .ok (.iload 6, 2) := by decide +kernel
theorem dX4_addLeaf_42 : decode cX4_addLeaf 42 = .ok (.iconst (-1), 1) := by decide +kernel
theorem dX4_addLeaf_43 : decode cX4_addLeaf 43 = .ok (.if_icmp .ne 5, 3) := by decide +kernel
theorem dX4_addLeaf_46 : decode cX4_addLeaf 46 = .ok (.iconst 2, 1) := by decide +kernel
theorem dX4_addLeaf_47 : decode cX4_addLeaf 47 = .ok (.ireturn, 1) := by decide +kernel
theorem dX4_addLeaf_48 : decode cX4_addLeaf 48 = .ok (.aload_n 0, 1) := by decide +kernel
theorem dX4_addLeaf_49 : decode cX4_addLeaf 49 = .ok (.aload_n 0, 1) := by decide +kernel
theorem dX4_addLeaf_50 : decode cX4_addLeaf 50 = .ok (.iload 6, 2) := by decide +kernel
theorem dX4_addLeaf_52 : decode cX4_addLeaf 52 = .ok (.iload_n 2, 1) := by decide +kernel
theorem dX4_addLeaf_53 : decode cX4_addLeaf 53 = .ok (.iconst 2, 1) := by decide +kernel
theorem dX4_addLeaf_54 : decode cX4_addLeaf 54 = .ok (.invokevirtual 106, 3) := by decide +kernel
theorem dX4_addLeaf_57 : decode cX4_addLeaf 57 = .ok (.putfield 110, 3) := by decide +kernel
theorem dX4_addLeaf_60 : decode cX4_addLeaf 60 = .ok (.aload_n 0, 1) := by decide +kernel
theorem dX4_addLeaf_61 : decode cX4_addLeaf 61 = .ok (.aload_n 0, 1) := by decide +kernel
theorem dX4_addLeaf_62 : decode cX4_addLeaf 62 = .ok (.getfield 110, 3) := by decide +kernel
theorem dX4_addLeaf_65 : decode cX4_addLeaf 65 = .ok (.aload_n 3, 1) := by decide +kernel
theorem dX4_addLeaf_66 : decode cX4_addLeaf 66 = .ok (.iload 4, 2) := by decide +kernel
theorem dX4_addLeaf_68 : decode cX4_addLeaf 68 = .ok (.iload 5, 2) := by decide +kernel
theorem dX4_addLeaf_70 : decode cX4_addLeaf 70 = .ok (.if_icmp .ge 10, 3) := by decide +kernel
theorem dX4_addLeaf_73 : decode cX4_addLeaf 73 = .ok (.iload 4, 2) := by decide +kernel
theorem dX4_addLeaf_75 : decode cX4_addLeaf 75 = .ok (.iconst 1, 1) := by decide +kernel
theorem dX4_addLeaf_76 : decode cX4_addLeaf 76 = .ok (.iadd, 1) := by decide +kernel
theorem dX4_addLeaf_77 : decode cX4_addLeaf 77 = .ok (.goto 5, 3) := by decide +kernel
theorem dX4_addLeaf_80 : decode cX4_addLeaf 80 = .ok (.iload 5, 2) := by decide +kernel
theorem dX4_addLeaf_82 : decode cX4_addLeaf 82 = .ok (.iload 5, 2) := by decide +kernel
theorem dX4_addLeaf_84 : decode cX4_addLeaf 84 = .ok (.invokevirtual 113, 3) := by decide +kernel
theorem dX4_addLeaf_87 : decode cX4_addLeaf 87 = .ok (.ifCond .eq 7, 3) := by decide +kernel
theorem dX4_addLeaf_90 : decode cX4_addLeaf 90 = .ok (.iconst 0, 1) := by decide +kernel
theorem dX4_addLeaf_91 : decode cX4_addLeaf 91 = .ok (.goto 4, 3) := by decide +kernel
theorem dX4_addLeaf_94 : decode cX4_addLeaf 94 = .ok (.iconst 2, 1) := by decide +kernel
theorem dX4_addLeaf_95 : decode cX4_addLeaf 95 = .ok (.ireturn, 1) := by decide +kernel
set_option maxRecDepth 20000 in
theorem ggX4_split_X4_lengthOf : GoodIn wsX4_split wsX4_lengthOf := goodIn_r _ [8, 1, 57, 58, 59, 60, 61, 62, 63, 64, 65, 66, 67, 68, 69, 70, 71, 72] (by decide +kernel) (by decide +kernel)
set_option maxRecDepth 20000 in
theorem gX4_split_X4_lengthOf : GoodIn wsX4_split (wsV RX4 86 RX4 yX4_lengthOf wsX4_lengthOf) := goodIn_app (goodIn_of _ (by decide +kernel)) ggX4_split_X4_lengthOf
set_option maxRecDepth 20000 in
theorem ggX4_split_X4_letterOf : GoodIn wsX4_split wsX4_letterOf := goodIn_r _ [12, 1, 57, 58, 59, 60, 61, 62, 63, 64, 65, 66, 67, 68, 69, 70, 71, 72] (by decide +kernel) (by decide +kernel)
set_option maxRecDepth 20000 in
theorem gX4_split_X4_letterOf : GoodIn wsX4_split (wsV RX4 89 RX4 yX4_letterOf wsX4_letterOf) := goodIn_app (goodIn_of _ (by decide +kernel)) ggX4_split_X4_letterOf
set_option maxRecDepth 20000 in
theorem ggX4_split_X4_dropEnd : GoodIn wsX4_split wsX4_dropEnd := goodIn_r _ [16, 1, 57, 58, 59, 60, 61, 62, 63, 64, 65, 66, 67, 68, 69, 70, 71, 72] (by decide +kernel) (by decide +kernel)
set_option maxRecDepth 20000 in
theorem gX4_split_X4_dropEnd : GoodIn wsX4_split (wsV RX4 116 RX4 yX4_dropEnd wsX4_dropEnd) := goodIn_app (goodIn_of _ (by decide +kernel)) ggX4_split_X4_dropEnd
set_option maxRecDepth 20000 in
theorem ggX4_split_X4_open : GoodIn wsX4_split wsX4_open := goodIn_r _ [20, 1, 21, 22, 23, 7, 24, 25, 26, 27, 28, 29, 30, 31, 32, 57, 58, 59, 60, 61, 62, 63, 64, 65, 66, 67, 68, 69, 70, 71, 72] (by decide +kernel) (by decide +kernel)
set_option maxRecDepth 20000 in
theorem gX4_split_X4_open : GoodIn wsX4_split (wsV RX4 100 RX4 yX4_open wsX4_open) := goodIn_app (goodIn_of _ (by decide +kernel)) ggX4_split_X4_open
set_option maxRecDepth 20000 in
theorem ggX4_split_X4_putChild : GoodIn wsX4_split wsX4_putChild := goodIn_r _ [36, 1, 37, 38, 39, 7, 40, 57, 58, 59, 60, 61, 62, 63, 64, 65, 66, 67, 68, 69, 70, 71, 72] (by decide +kernel) (by decide +kernel)
set_option maxRecDepth 20000 in
theorem gX4_split_X4_putChild : GoodIn wsX4_split (wsV RX4 106 RX4 yX4_putChild wsX4_putChild) := goodIn_app (goodIn_of _ (by decide +kernel)) ggX4_split_X4_putChild
set_option maxRecDepth 20000 in
theorem ggX4_split_X4_giveEnd : GoodIn wsX4_split wsX4_giveEnd := goodIn_r _ [44, 1, 45, 46, 47, 7, 48, 49, 50, 51, 52, 53, 54, 55, 56, 4, 5, 6, 8, 9, 10, 11, 12, 57, 58, 59, 60, 61, 62, 63, 64, 65, 66, 67, 68, 69, 70, 71, 72] (by decide +kernel) (by decide +kernel)
set_option maxRecDepth 20000 in
theorem gX4_split_X4_giveEnd : GoodIn wsX4_split (wsV RX4 113 RX4 yX4_giveEnd wsX4_giveEnd) := goodIn_app (goodIn_of _ (by decide +kernel)) ggX4_split_X4_giveEnd
theorem dX4_split_0 : decode cX4_split 0 = .ok (.aload_n 0, 1) := by decide +kernel
theorem dX4_split_1 : decode cX4_split 1 = .ok (.getfield 7, 3) := by decide +kernel
theorem dX4_split_4 : decode cX4_split 4 = .ok (.sipush 640, 3) := by decide +kernel
theorem dX4_split_7 : decode cX4_split 7 = .ok (.iload_n 1, 1) := by decide +kernel
theorem dX4_split_8 : decode cX4_split 8 = .ok (.iadd, 1) := by decide +kernel
theorem dX4_split_9 : decode cX4_split 9 = .ok (.iaload, 1) := by decide +kernel
theorem dX4_split_10 : decode cX4_split 10 = .ok (.istore 5, 2) := by decide +kernel
theorem dX4_split_12 : decode cX4_split 12 = .ok (.aload_n 0, 1) := by decide +kernel
theorem dX4_split_13 : decode cX4_split 13 = .ok (.iload 5, 2) := by decide +kernel
theorem dX4_split_15 : decode cX4_split 15 = .ok (.invokevirtual 86, 3) := by decide +kernel
theorem dX4_split_18 : decode cX4_split 18 = .ok (.istore 6, 2) := by decide +kernel
theorem dX4_split_20 : decode cX4_split 20 = .ok (.iconst 0, 1) := by decide +kernel
theorem dX4_split_21 : decode cX4_split 21 = .ok (.istore 7, 2) := by decide +kernel
theorem dX4_split_23 : decode cX4_split 23 = .ok (.iload 7, 2) := by decide +kernel
theorem dX4_split_25 : decode cX4_split 25 = .ok (.iload 6, 2) := by decide +kernel
theorem dX4_split_27 : decode cX4_split 27 = .ok (.if_icmp .ge 24, 3) := by decide +kernel
theorem dX4_split_30 : decode cX4_split 30 = .ok (.aload_n 0, 1) := by decide +kernel
theorem dX4_split_31 : decode cX4_split 31 = .ok (.getfield 22, 3) := by decide +kernel
theorem dX4_split_34 : decode cX4_split 34 = .ok (.iload 7, 2) := by decide +kernel
theorem dX4_split_36 : decode cX4_split 36 = .ok (.aload_n 0, 1) := by decide +kernel
theorem dX4_split_37 : decode cX4_split 37 = .ok (.iload 5, 2) := by decide +kernel
theorem dX4_split_39 : decode cX4_split 39 = .ok (.iload 7, 2) := by decide +kernel
theorem dX4_split_41 : decode cX4_split 41 = .ok (.invokevirtual 89, 3) := by decide +kernel
theorem dX4_split_44 : decode cX4_split 44 = .ok (.iastore, 1) := by decide +kernel
theorem dX4_split_45 : decode cX4_split 45 = .ok (.iinc 7 1, 3) := by decide +kernel
theorem dX4_split_48 : decode cX4_split 48 = .ok (.goto (-25), 3) := by decide +kernel
theorem dX4_split_51 : decode cX4_split 51 = .ok (.aload_n 0, 1) := by decide +kernel
theorem dX4_split_52 : decode cX4_split 52 = .ok (.iload_n 1, 1) := by decide +kernel
theorem dX4_split_53 : decode cX4_split 53 = .ok (.invokevirtual 116, 3) := by decide +kernel
theorem dX4_split_56 : decode cX4_split 56 = .ok (.aload_n 0, 1) := by decide +kernel
theorem dX4_split_57 : decode cX4_split 57 = .ok (.getfield 7, 3) := by decide +kernel
theorem dX4_split_60 : decode cX4_split 60 = .ok (.iconst 0, 1) := by decide +kernel
theorem dX4_split_61 : decode cX4_split 61 = .ok (.iload_n 1, 1) := by decide +kernel
theorem dX4_split_62 : decode cX4_split 62 = .ok (.iadd, 1) := by decide +kernel
theorem dX4_split_63 : decode cX4_split 63 = .ok (.iconst 1, 1) := by decide +kernel
theorem dX4_split_64 : decode cX4_split 64 = .ok (.iastore, 1) := by decide +kernel
theorem dX4_split_65 : decode cX4_split 65 = .ok (.iload_n 1, 1) := by decide +kernel
theorem dX4_split_66 : decode cX4_split 66 = .ok (.istore 7, 2) := by decide +kernel
theorem dX4_split_68 : decode cX4_split 68 = .ok (.iconst 0, 1) := by decide +kernel
theorem dX4_split_69 : decode cX4_split 69 = .ok (.istore 8, 2) := by decide +kernel
theorem dX4_split_71 : decode cX4_split 71 = .ok (.iload 8, 2) := by decide +kernel
theorem dX4_split_73 : decode cX4_split 73 = .ok (.iload 6, 2) := by decide +kernel
theorem dX4_split_75 : decode cX4_split 75 = .ok (.if_icmp .ge 70, 3) := by decide +kernel
theorem dX4_split_78 : decode cX4_split 78 = .ok (.iload_n 3, 1) := by decide +kernel
theorem dX4_split_79 : decode cX4_split 79 = .ok (.iload 8, 2) := by decide +kernel
theorem dX4_split_81 : decode cX4_split 81 = .ok (.iadd, 1) := by decide +kernel
theorem dX4_split_82 : decode cX4_split 82 = .ok (.iload 4, 2) := by decide +kernel
theorem dX4_split_84 : decode cX4_split 84 = .ok (.if_icmp .ge 61, 3) := by decide +kernel
theorem dX4_split_87 : decode cX4_split 87 = .ok (.aload_n 0, 1) := by decide +kernel
theorem dX4_split_88 : decode cX4_split 88 = .ok (.getfield 22, 3) := by decide +kernel
theorem dX4_split_91 : decode cX4_split 91 = .ok (.iload 8, 2) := by decide +kernel
theorem dX4_split_93 : decode cX4_split 93 = .ok (.iaload, 1) := by decide +kernel
theorem dX4_split_94 : decode cX4_split 94 = .ok (.aload_n 2, 1) := by decide +kernel
theorem dX4_split_95 : decode cX4_split 95 = .ok (.iload_n 3, 1) := by decide +kernel
theorem dX4_split_96 : decode cX4_split 96 = .ok (.iload 8, 2) := by decide +kernel
theorem dX4_split_98 : decode cX4_split 98 = .ok (.iadd, 1) := by decide +kernel
theorem dX4_split_99 : decode cX4_split 99 = .ok (.iaload, 1) := by decide +kernel
theorem dX4_split_100 : decode cX4_split 100 = .ok (.if_icmp .ne 45, 3) := by decide +kernel
theorem dX4_split_103 : decode cX4_split 103 = .ok (.aload_n 0, 1) := by decide +kernel
theorem dX4_split_104 : decode cX4_split 104 = .ok (.iload 7, 2) := by decide +kernel
theorem dX4_split_106 : decode cX4_split 106 = .ok (.iconst 1, 1) := by decide +kernel
theorem dX4_split_107 : decode cX4_split 107 = .ok (.aload_n 0, 1) := by decide +kernel
theorem dX4_split_108 : decode cX4_split 108 = .ok (.getfield 22, 3) := by decide +kernel
theorem dX4_split_111 : decode cX4_split 111 = .ok (.iload 8, 2) := by decide +kernel
theorem dX4_split_113 : decode cX4_split 113 = .ok (.iaload, 1) := by decide +kernel
theorem dX4_split_114 : decode cX4_split 114 = .ok (.ishl, 1) := by decide +kernel
theorem dX4_split_115 : decode cX4_split 115 = .ok (.invokevirtual 100, 3) := by decide +kernel
theorem dX4_split_118 : decode cX4_split 118 = .ok (.ifCond .ne 5, 3) := by decide +kernel
theorem dX4_split_121 : decode cX4_split 121 = .ok (.iconst 2, 1) := by decide +kernel
theorem dX4_split_122 : decode cX4_split 122 = .ok (.ireturn, 1) := by decide +kernel
theorem dX4_split_123 : decode cX4_split 123 = .ok (.aload_n 0, 1) := by decide +kernel
theorem dX4_split_124 : decode cX4_split 124 = .ok (.iload 7, 2) := by decide +kernel
theorem dX4_split_126 : decode cX4_split 126 = .ok (.aload_n 0, 1) := by decide +kernel
theorem dX4_split_127 : decode cX4_split 127 = .ok (.getfield 22, 3) := by decide +kernel
theorem dX4_split_130 : decode cX4_split 130 = .ok (.iload 8, 2) := by decide +kernel
theorem dX4_split_132 : decode cX4_split 132 = .ok (.iaload, 1) := by decide +kernel
theorem dX4_split_133 : decode cX4_split 133 = .ok (.iconst 1, 1) := by decide +kernel
theorem dX4_split_134 : decode cX4_split 134 = .ok (.invokevirtual 106, 3) := by decide +kernel
theorem dX4_split_137 : decode cX4_split 137 = .ok (.istore 7, 2) := by decide +kernel
theorem dX4_split_139 : decode cX4_split 139 = .ok (.iinc 8 1, 3) := by decide +kernel
theorem dX4_split_142 : decode cX4_split 142 = .ok (.goto (-71), 3) := by decide +kernel
theorem dX4_split_145 : decode cX4_split 145 = .ok (.iload 8, 2) := by decide +kernel
theorem dX4_split_147 : decode cX4_split 147 = .ok (.iload 6, 2) := by decide +kernel
theorem dX4_split_149 : decode cX4_split 149 = .ok (.if_icmp .ge 13, 3) := by decide +kernel
theorem dX4_split_152 : decode cX4_split 152 = .ok (.aload_n 0, 1) := by decide +kernel
theorem dX4_split_153 : decode cX4_split 153 = .ok (.getfield 22, 3) := by decide +kernel
theorem dX4_split_156 : decode cX4_split 156 = .ok (.iload 8, 2) := by decide +kernel
theorem dX4_split_158 : decode cX4_split 158 = .ok (.iaload, 1) := by decide +kernel
theorem dX4_split_159 : decode cX4_split 159 = .ok (.goto 4, 3) := by decide +kernel
theorem dX4_split_162 : decode cX4_split 162 = .ok (.iconst 0, 1) := by decide +kernel
theorem dX4_split_163 : decode cX4_split 163 = .ok (.istore 9, 2) := by decide +kernel
theorem dX4_split_165 : decode cX4_split 165 = .ok (.iload_n 3, 1) := by decide +kernel
theorem dX4_split_166 : decode cX4_split 166 = .ok (.iload 8, 2) := by decide +kernel
theorem dX4_split_168 : decode cX4_split 168 = .ok (.iadd, 1) := by decide +kernel
theorem dX4_split_169 : decode cX4_split 169 = .ok (.iload 4, 2) := by decide +kernel
theorem dX4_split_171 : decode cX4_split 171 = .ok (.if_icmp .ge 12, 3) := by decide +kernel
theorem dX4_split_174 : decode cX4_split 174 = .ok (.aload_n 2, 1) := by decide +kernel
theorem dX4_split_175 : decode cX4_split 175 = .ok (.iload_n 3, 1) := by decide +kernel
theorem dX4_split_176 : decode cX4_split 176 = .ok (.iload 8, 2) := by decide +kernel
theorem dX4_split_178 : decode cX4_split 178 = .ok (.iadd, 1) := by decide +kernel
theorem dX4_split_179 : decode cX4_split 179 = .ok (.iaload, 1) := by decide +kernel
theorem dX4_split_180 : decode cX4_split 180 = .ok (.goto 4, 3) := by decide +kernel
theorem dX4_split_183 : decode cX4_split 183 = .ok (.iconst 0, 1) := by decide +kernel
theorem dX4_split_184 : decode cX4_split 184 = .ok (.istore 10, 2) := by decide +kernel
theorem dX4_split_186 : decode cX4_split 186 = .ok (.aload_n 0, 1) := by decide +kernel
theorem dX4_split_187 : decode cX4_split 187 = .ok (.iload 7, 2) := by decide +kernel
theorem dX4_split_189 : decode cX4_split 189 = .ok (.iconst 1, 1) := by decide +kernel
theorem dX4_split_190 : decode cX4_split 190 = .ok (.iload 9, 2) := by decide +kernel
theorem dX4_split_192 : decode cX4_split 192 = .ok (.ishl, 1) := by decide +kernel
theorem dX4_split_193 : decode cX4_split 193 = .ok (.iconst 1, 1) := by decide +kernel
theorem dX4_split_194 : decode cX4_split 194 = .ok (.iload 10, 2) := by decide +kernel
theorem dX4_split_196 : decode cX4_split 196 = .ok (.ishl, 1) := by decide +kernel
theorem dX4_split_197 : decode cX4_split 197 = .ok (.ior, 1) := by decide +kernel
theorem dX4_split_198 : decode cX4_split 198 = .ok (.invokevirtual 100, 3) := by decide +kernel
theorem dX4_split_201 : decode cX4_split 201 = .ok (.ifCond .ne 5, 3) := by decide +kernel
theorem dX4_split_204 : decode cX4_split 204 = .ok (.iconst 2, 1) := by decide +kernel
theorem dX4_split_205 : decode cX4_split 205 = .ok (.ireturn, 1) := by decide +kernel
theorem dX4_split_206 : decode cX4_split 206 = .ok (.aload_n 0, 1) := by decide +kernel
theorem dX4_split_207 : decode cX4_split 207 = .ok (.iload 7, 2) := by decide +kernel
theorem dX4_split_209 : decode cX4_split 209 = .ok (.iload 9, 2) := by decide +kernel
theorem dX4_split_211 : decode cX4_split 211 = .ok (.iconst 2, 1) := by decide +kernel
theorem dX4_split_212 : decode cX4_split 212 = .ok (.invokevirtual 106, 3) := by decide +kernel
theorem dX4_split_215 : decode cX4_split 215 = .ok (.istore 11, 2) := by decide +kernel
theorem dX4_split_217 : decode cX4_split 217 = .ok (.aload_n 0, 1) := by decide +kernel
theorem dX4_split_218 : decode cX4_split 218 = .ok (.aload_n 0, 1) := by decide +kernel
theorem dX4_split_219 : decode cX4_split 219 = .ok (.iload 7, 2) := by decide +kernel
theorem dX4_split_221 : decode cX4_split 221 = .ok (.iload 10, 2) := by decide +kernel
theorem dX4_split_223 : decode cX4_split 223 = .ok (.iconst 2, 1) := by decide +kernel
theorem dX4_split_224 : decode cX4_split 224 = .ok (.invokevirtual 106, 3) := by decide +kernel
theorem dX4_split_227 : decode cX4_split 227 = .ok (.putfield 110, 3) := by decide +kernel
theorem dX4_split_230 : decode cX4_split 230 = .ok (.aload_n 0, 1) := by decide +kernel
theorem dX4_split_231 : decode cX4_split 231 = .ok (.iload 11, 2) := by decide +kernel
theorem dX4_split_233 : decode cX4_split 233 = .ok (.aload_n 0, 1) := by decide +kernel
theorem dX4_split_234 : decode cX4_split 234 = .ok (.getfield 22, 3) := by decide +kernel
theorem dX4_split_237 : decode cX4_split 237 = .ok (.iload 8, 2) := by decide +kernel
theorem dX4_split_239 : decode cX4_split 239 = .ok (.iload 6, 2) := by decide +kernel
theorem dX4_split_241 : decode cX4_split 241 = .ok (.if_icmp .ge 10, 3) := by decide +kernel
theorem dX4_split_244 : decode cX4_split 244 = .ok (.iload 8, 2) := by decide +kernel
theorem dX4_split_246 : decode cX4_split 246 = .ok (.iconst 1, 1) := by decide +kernel
theorem dX4_split_247 : decode cX4_split 247 = .ok (.iadd, 1) := by decide +kernel
theorem dX4_split_248 : decode cX4_split 248 = .ok (.goto 5, 3) := by decide +kernel
theorem dX4_split_251 : decode cX4_split 251 = .ok (.iload 6, 2) := by decide +kernel
theorem dX4_split_253 : decode cX4_split 253 = .ok (.iload 6, 2) := by decide +kernel
theorem dX4_split_255 : decode cX4_split 255 = .ok (.invokevirtual 113, 3) := by decide +kernel
theorem dX4_split_258 : decode cX4_split 258 = .ok (.istore 12, 2) := by decide +kernel
theorem dX4_split_260 : decode cX4_split 260 = .ok (.iload 12, 2) := by decide +kernel
theorem dX4_split_262 : decode cX4_split 262 = .ok (.ifCond .eq 41, 3) := by decide +kernel
theorem dX4_split_265 : decode cX4_split 265 = .ok (.aload_n 0, 1) := by decide +kernel
theorem dX4_split_266 : decode cX4_split 266 = .ok (.aload_n 0, 1) := by decide +kernel
theorem dX4_split_267 : decode cX4_split 267 = .ok (.getfield 110, 3) := by decide +kernel
theorem dX4_split_270 : decode cX4_split 270 = .ok (.aload_n 2, 1) := by decide +kernel
theorem dX4_split_271 : decode cX4_split 271 = .ok (.iload_n 3, 1) := by decide +kernel
theorem dX4_split_272 : decode cX4_split 272 = .ok (.iload 8, 2) := by decide +kernel
theorem dX4_split_274 : decode cX4_split 274 = .ok (.iadd, 1) := by decide +kernel
theorem dX4_split_275 : decode cX4_split 275 = .ok (.iload 4, 2) := by decide +kernel
theorem dX4_split_277 : decode cX4_split 277 = .ok (.if_icmp .ge 12, 3) := by decide +kernel
theorem dX4_split_280 : decode cX4_split 280 = .ok (.iload_n 3, 1) := by decide +kernel
theorem dX4_split_281 : decode cX4_split 281 = .ok (.iload 8, 2) := by decide +kernel
theorem dX4_split_283 : decode cX4_split 283 = .ok (.iadd, 1) := by decide +kernel
theorem dX4_split_284 : decode cX4_split 284 = .ok (.iconst 1, 1) := by decide +kernel
theorem dX4_split_285 : decode cX4_split 285 = .ok (.iadd, 1) := by decide +kernel
theorem dX4_split_286 : decode cX4_split 286 = .ok (.goto 5, 3) := by decide +kernel
theorem dX4_split_289 : decode cX4_split 289 = .ok (.iload 4, 2) := by decide +kernel
theorem dX4_split_291 : decode cX4_split 291 = .ok (.iload 4, 2) := by decide +kernel
theorem dX4_split_293 : decode cX4_split 293 = .ok (.invokevirtual 113, 3) := by decide +kernel
theorem dX4_split_296 : decode cX4_split 296 = .ok (.ifCond .eq 7, 3) := by decide +kernel
theorem dX4_split_299 : decode cX4_split 299 = .ok (.iconst 0, 1) := by decide +kernel
theorem dX4_split_300 : decode cX4_split 300 = .ok (.goto 4, 3) := by decide +kernel
theorem dX4_split_303 : decode cX4_split 303 = .ok (.iconst 2, 1) := by decide +kernel
theorem dX4_split_304 : decode cX4_split 304 = .ok (.ireturn, 1) := by decide +kernel
set_option maxRecDepth 20000 in
theorem ggX4_addWord_X4_child : GoodIn wsX4_addWord wsX4_child := goodIn_r _ [7, 2, 8, 9, 10, 6, 11, 12, 13, 14, 15, 96, 97, 98, 99, 100, 101, 102, 103, 104, 105, 106, 107, 108, 109, 110, 111] (by decide +kernel) (by decide +kernel)
set_option maxRecDepth 20000 in
theorem gX4_addWord_X4_child : GoodIn wsX4_addWord (wsV RX4 59 RX4 yX4_child wsX4_child) := goodIn_app (goodIn_of _ (by decide +kernel)) ggX4_addWord_X4_child
set_option maxRecDepth 20000 in
theorem ggX4_addWord_X4_addLeaf : GoodIn wsX4_addWord wsX4_addLeaf := goodIn_r _ [19, 1, 8, 9, 10, 6, 11, 2, 20, 21, 22, 23, 24, 25, 26, 27, 28, 29, 30, 31, 12, 13, 14, 15, 32, 33, 34, 35, 36, 37, 38, 39, 3, 4, 5, 7, 40, 41, 42, 43, 44, 45, 46, 47, 48, 49, 50, 51, 52, 53, 54, 55, 56, 57, 58, 59, 60, 61, 62, 63, 64, 65, 66, 67, 68, 69, 70, 71, 72, 73, 74, 75, 76, 77, 78, 79, 80, 81, 82, 96, 97, 98, 99, 100, 101, 102, 103, 104, 105, 106, 107, 108, 109, 110, 111] (by decide +kernel) (by decide +kernel)
set_option maxRecDepth 20000 in
theorem gX4_addWord_X4_addLeaf : GoodIn wsX4_addWord (wsV RX4 119 RX4 yX4_addLeaf wsX4_addLeaf) := goodIn_app (goodIn_of _ (by decide +kernel)) ggX4_addWord_X4_addLeaf
set_option maxRecDepth 20000 in
theorem ggX4_addWord_X4_isLeaf : GoodIn wsX4_addWord wsX4_isLeaf := goodIn_r _ [86, 2, 96, 97, 98, 99, 100, 101, 102, 103, 104, 105, 106, 107, 108, 109, 110, 111] (by decide +kernel) (by decide +kernel)
set_option maxRecDepth 20000 in
theorem gX4_addWord_X4_isLeaf : GoodIn wsX4_addWord (wsV RX4 123 RX4 yX4_isLeaf wsX4_isLeaf) := goodIn_app (goodIn_of _ (by decide +kernel)) ggX4_addWord_X4_isLeaf
set_option maxRecDepth 20000 in
theorem ggX4_addWord_X4_isEnd : GoodIn wsX4_addWord wsX4_isEnd := goodIn_r _ [74, 67, 68, 69, 6, 70, 2, 75, 76, 77, 78, 79, 80, 81, 82, 96, 97, 98, 99, 100, 101, 102, 103, 104, 105, 106, 107, 108, 109, 110, 111] (by decide +kernel) (by decide +kernel)
set_option maxRecDepth 20000 in
theorem gX4_addWord_X4_isEnd : GoodIn wsX4_addWord (wsV RX4 92 RX4 yX4_isEnd wsX4_isEnd) := goodIn_app (goodIn_of _ (by decide +kernel)) ggX4_addWord_X4_isEnd
set_option maxRecDepth 20000 in
theorem ggX4_addWord_X4_split : GoodIn wsX4_addWord wsX4_split := goodIn_r _ [90, 2, 91, 1, 75, 76, 77, 6, 78, 79, 80, 81, 82, 92, 93, 94, 95, 20, 21, 22, 23, 24, 25, 26, 27, 28, 29, 30, 31, 12, 13, 14, 15, 55, 56, 57, 58, 8, 9, 10, 11, 59, 60, 61, 62, 63, 64, 65, 66, 67, 68, 69, 70, 71, 72, 73, 74, 96, 97, 98, 99, 100, 101, 102, 103, 104, 105, 106, 107, 108, 109, 110, 111] (by decide +kernel) (by decide +kernel)
set_option maxRecDepth 20000 in
theorem gX4_addWord_X4_split : GoodIn wsX4_addWord (wsV RX4 126 RX4 yX4_split wsX4_split) := goodIn_app (goodIn_of _ (by decide +kernel)) ggX4_addWord_X4_split
theorem dX4_addWord_0 : decode cX4_addWord 0 = .ok (.iconst 0, 1) := by decide +kernel
theorem dX4_addWord_1 : decode cX4_addWord 1 = .ok (.istore_n 3, 1) := by decide +kernel
theorem dX4_addWord_2 : decode cX4_addWord 2 = .ok (.iconst 0, 1) := by decide +kernel
theorem dX4_addWord_3 : decode cX4_addWord 3 = .ok (.istore 4, 2) := by decide +kernel
theorem dX4_addWord_5 : decode cX4_addWord 5 = .ok (.iload 4, 2) := by decide +kernel
theorem dX4_addWord_7 : decode cX4_addWord 7 = .ok (.iload_n 2, 1) := by decide +kernel
theorem dX4_addWord_8 : decode cX4_addWord 8 = .ok (.if_icmp .ge 10, 3) := by decide +kernel
theorem dX4_addWord_11 : decode cX4_addWord 11 = .ok (.aload_n 1, 1) := by decide +kernel
theorem dX4_addWord_12 : decode cX4_addWord 12 = .ok (.iload 4, 2) := by decide +kernel
theorem dX4_addWord_14 : decode cX4_addWord 14 = .ok (.iaload, 1) := by decide +kernel
theorem dX4_addWord_15 : decode cX4_addWord 15 = .ok (.goto 4, 3) := by decide +kernel
theorem dX4_addWord_18 : decode cX4_addWord 18 = .ok (.iconst 0, 1) := by decide +kernel
theorem dX4_addWord_19 : decode cX4_addWord 19 = .ok (.istore 5, 2) := by decide +kernel
theorem dX4_addWord_21 : decode cX4_addWord 21 = .ok (.aload_n 0, 1) := by decide +kernel
theorem dX4_addWord_22 : decode cX4_addWord 22 = .ok (.iload_n 3, 1) := by decide +kernel
theorem dX4_addWord_23 : decode cX4_addWord 23 = .ok (.iload 5, 2) := by decide +kernel
theorem dX4_addWord_25 : decode cX4_addWord 25 = .ok (.invokevirtual 59, 3) := by decide +kernel
theorem dX4_addWord_28 : decode cX4_addWord 28 = .ok (.istore 6, 2) := by decide +kernel
theorem dX4_addWord_30 : decode cX4_addWord 30 = .ok (.iload 6, 2) := by decide +kernel
theorem dX4_addWord_32 : decode cX4_addWord 32 = .ok (.iconst (-1), 1) := by decide +kernel
theorem dX4_addWord_33 : decode cX4_addWord 33 = .ok (.if_icmp .ne 15, 3) := by decide +kernel
theorem dX4_addWord_36 : decode cX4_addWord 36 = .ok (.aload_n 0, 1) := by decide +kernel
theorem dX4_addWord_37 : decode cX4_addWord 37 = .ok (.iload_n 3, 1) := by decide +kernel
theorem dX4_addWord_38 : decode cX4_addWord 38 = .ok (.iload 5, 2) := by decide +kernel
theorem dX4_addWord_40 : decode cX4_addWord 40 = .ok (.aload_n 1, 1) := by decide +kernel
theorem dX4_addWord_41 : decode cX4_addWord 41 = .ok (.iload 4, 2) := by decide +kernel
theorem dX4_addWord_43 : decode cX4_addWord 43 = .ok (.iload_n 2, 1) := by decide +kernel
theorem dX4_addWord_44 : decode cX4_addWord 44 = .ok (.invokevirtual 119, 3) := by decide +kernel
theorem dX4_addWord_47 : decode cX4_addWord 47 = .ok (.ireturn, 1) := by decide +kernel
theorem dX4_addWord_48 : decode cX4_addWord 48 = .ok (.iload 4, 2) := by decide +kernel
theorem dX4_addWord_50 : decode cX4_addWord 50 = .ok (.iload_n 2, 1) := by decide +kernel
theorem dX4_addWord_51 : decode cX4_addWord 51 = .ok (.if_icmp .ge 10, 3) := by decide +kernel
theorem dX4_addWord_54 : decode cX4_addWord 54 = .ok (.iload 4, 2) := by decide +kernel
theorem dX4_addWord_56 : decode cX4_addWord 56 = .ok (.iconst 1, 1) := by decide +kernel
theorem dX4_addWord_57 : decode cX4_addWord 57 = .ok (.iadd, 1) := by decide +kernel
theorem dX4_addWord_58 : decode cX4_addWord 58 = .ok (.goto 4, 3) := by decide +kernel
theorem dX4_addWord_61 : decode cX4_addWord 61 = .ok (.iload_n 2, 1) := by decide +kernel
theorem dX4_addWord_62 : decode cX4_addWord 62 = .ok (.istore 7, 2) := by decide +kernel
theorem dX4_addWord_64 : decode cX4_addWord 64 = .ok (.aload_n 0, 1) := by decide +kernel
theorem dX4_addWord_65 : decode cX4_addWord 65 = .ok (.iload 6, 2) := by decide +kernel
theorem dX4_addWord_67 : decode cX4_addWord 67 = .ok (.invokevirtual 123, 3) := by decide +kernel
theorem dX4_addWord_70 : decode cX4_addWord 70 = .ok (.ifCond .eq 46, 3) := by decide +kernel
theorem dX4_addWord_73 : decode cX4_addWord 73 = .ok (.aload_n 0, 1) := by decide +kernel
theorem dX4_addWord_74 : decode cX4_addWord 74 = .ok (.iload 6, 2) := by decide +kernel
theorem dX4_addWord_76 : decode cX4_addWord 76 = .ok (.putfield 110, 3) := by decide +kernel
theorem dX4_addWord_79 : decode cX4_addWord 79 = .ok (.aload_n 0, 1) := by decide +kernel
theorem dX4_addWord_80 : decode cX4_addWord 80 = .ok (.aload_n 0, 1) := by decide +kernel
theorem dX4_addWord_81 : decode cX4_addWord 81 = .ok (.getfield 7, 3) := by decide +kernel
theorem dX4_addWord_84 : decode cX4_addWord 84 = .ok (.sipush 640, 3) := by decide +kernel
theorem dX4_addWord_87 : decode cX4_addWord 87 = .ok (.iload 6, 2) := by decide +kernel
theorem dX4_addWord_89 : decode cX4_addWord 89 = .ok (.iadd, 1) := by decide +kernel
theorem dX4_addWord_90 : decode cX4_addWord 90 = .ok (.iaload, 1) := by decide +kernel
theorem dX4_addWord_91 : decode cX4_addWord 91 = .ok (.aload_n 1, 1) := by decide +kernel
theorem dX4_addWord_92 : decode cX4_addWord 92 = .ok (.iload 7, 2) := by decide +kernel
theorem dX4_addWord_94 : decode cX4_addWord 94 = .ok (.iload_n 2, 1) := by decide +kernel
theorem dX4_addWord_95 : decode cX4_addWord 95 = .ok (.invokevirtual 92, 3) := by decide +kernel
theorem dX4_addWord_98 : decode cX4_addWord 98 = .ok (.ifCond .eq 7, 3) := by decide +kernel
theorem dX4_addWord_101 : decode cX4_addWord 101 = .ok (.iconst 1, 1) := by decide +kernel
theorem dX4_addWord_102 : decode cX4_addWord 102 = .ok (.goto 13, 3) := by decide +kernel
theorem dX4_addWord_105 : decode cX4_addWord 105 = .ok (.aload_n 0, 1) := by decide +kernel
theorem dX4_addWord_106 : decode cX4_addWord 106 = .ok (.iload 6, 2) := by decide +kernel
theorem dX4_addWord_108 : decode cX4_addWord 108 = .ok (.aload_n 1, 1) := by decide +kernel
theorem dX4_addWord_109 : decode cX4_addWord 109 = .ok (.iload 7, 2) := by decide +kernel
theorem dX4_addWord_111 : decode cX4_addWord 111 = .ok (.iload_n 2, 1) := by decide +kernel
theorem dX4_addWord_112 : decode cX4_addWord 112 = .ok (.invokevirtual 126, 3) := by decide +kernel
theorem dX4_addWord_115 : decode cX4_addWord 115 = .ok (.ireturn, 1) := by decide +kernel
theorem dX4_addWord_116 : decode cX4_addWord 116 = .ok (.iload 6, 2) := by decide +kernel
theorem dX4_addWord_118 : decode cX4_addWord 118 = .ok (.istore_n 3, 1) := by decide +kernel
theorem dX4_addWord_119 : decode cX4_addWord 119 = .ok (.iinc 4 1, 3) := by decide +kernel
theorem dX4_addWord_122 : decode cX4_addWord 122 = .ok (.goto (-117), 3) := by decide +kernel
set_option maxRecDepth 20000 in
theorem ggX4_addIt_X4_putAside : GoodIn wsX4_addIt wsX4_putAside := goodIn_r _ [7, 8, 9, 111, 112, 113, 114, 115, 116, 117, 118, 119, 120, 121, 122, 123, 124, 125, 126] (by decide +kernel) (by decide +kernel)
set_option maxRecDepth 20000 in
theorem gX4_addIt_X4_putAside : GoodIn wsX4_addIt (wsV RX4 130 RX4 yX4_putAside wsX4_putAside) := goodIn_app (goodIn_of _ (by decide +kernel)) ggX4_addIt_X4_putAside
set_option maxRecDepth 20000 in
theorem ggX4_addIt_X4_addWord : GoodIn wsX4_addIt wsX4_addWord := goodIn_r _ [13, 14, 9, 15, 16, 17, 6, 18, 19, 20, 21, 22, 23, 24, 25, 26, 27, 28, 29, 30, 31, 32, 33, 34, 35, 36, 37, 38, 39, 40, 41, 42, 43, 44, 45, 46, 47, 48, 49, 50, 51, 52, 53, 54, 55, 56, 57, 58, 59, 60, 61, 62, 63, 64, 65, 66, 67, 68, 69, 70, 71, 72, 73, 74, 75, 76, 77, 78, 79, 80, 81, 82, 83, 84, 85, 86, 87, 88, 89, 90, 91, 92, 93, 94, 95, 96, 97, 98, 99, 100, 101, 102, 103, 104, 105, 106, 111, 112, 113, 114, 115, 116, 117, 118, 119, 120, 121, 122, 123, 124, 125, 126] (by decide +kernel) (by decide +kernel)
set_option maxRecDepth 20000 in
theorem gX4_addIt_X4_addWord : GoodIn wsX4_addIt (wsV RX4 136 RX4 yX4_addWord wsX4_addWord) := goodIn_app (goodIn_of _ (by decide +kernel)) ggX4_addIt_X4_addWord
set_option maxRecDepth 20000 in
theorem ggX4_addIt_X4_bringBack : GoodIn wsX4_addIt wsX4_bringBack := goodIn_r _ [110, 9, 8, 111, 112, 113, 114, 115, 116, 117, 118, 119, 120, 121, 122, 123, 124, 125, 126] (by decide +kernel) (by decide +kernel)
set_option maxRecDepth 20000 in
theorem gX4_addIt_X4_bringBack : GoodIn wsX4_addIt (wsV RX4 140 RX4 yX4_bringBack wsX4_bringBack) := goodIn_app (goodIn_of _ (by decide +kernel)) ggX4_addIt_X4_bringBack
theorem dX4_addIt_0 : decode cX4_addIt 0 = .ok (.aload_n 0, 1) := by decide +kernel
theorem dX4_addIt_1 : decode cX4_addIt 1 = .ok (.invokevirtual 130, 3) := by decide +kernel
theorem dX4_addIt_4 : decode cX4_addIt 4 = .ok (.aload_n 0, 1) := by decide +kernel
theorem dX4_addIt_5 : decode cX4_addIt 5 = .ok (.getfield 133, 3) := by decide +kernel
theorem dX4_addIt_8 : decode cX4_addIt 8 = .ok (.ifCond .ne 7, 3) := by decide +kernel
theorem dX4_addIt_11 : decode cX4_addIt 11 = .ok (.iconst 3, 1) := by decide +kernel
theorem dX4_addIt_12 : decode cX4_addIt 12 = .ok (.goto 15, 3) := by decide +kernel
theorem dX4_addIt_15 : decode cX4_addIt 15 = .ok (.aload_n 0, 1) := by decide +kernel
theorem dX4_addIt_16 : decode cX4_addIt 16 = .ok (.aload_n 0, 1) := by decide +kernel
theorem dX4_addIt_17 : decode cX4_addIt 17 = .ok (.getfield 19, 3) := by decide +kernel
theorem dX4_addIt_20 : decode cX4_addIt 20 = .ok (.aload_n 0, 1) := by decide +kernel
theorem dX4_addIt_21 : decode cX4_addIt 21 = .ok (.getfield 133, 3) := by decide +kernel
theorem dX4_addIt_24 : decode cX4_addIt 24 = .ok (.invokevirtual 136, 3) := by decide +kernel
theorem dX4_addIt_27 : decode cX4_addIt 27 = .ok (.istore_n 1, 1) := by decide +kernel
theorem dX4_addIt_28 : decode cX4_addIt 28 = .ok (.iload_n 1, 1) := by decide +kernel
theorem dX4_addIt_29 : decode cX4_addIt 29 = .ok (.ifCond .eq 7, 3) := by decide +kernel
theorem dX4_addIt_32 : decode cX4_addIt 32 = .ok (.aload_n 0, 1) := by decide +kernel
theorem dX4_addIt_33 : decode cX4_addIt 33 = .ok (.invokevirtual 140, 3) := by decide +kernel
theorem dX4_addIt_36 : decode cX4_addIt 36 = .ok (.iload_n 1, 1) := by decide +kernel
theorem dX4_addIt_37 : decode cX4_addIt 37 = .ok (.ireturn, 1) := by decide +kernel
set_option maxRecDepth 20000 in
theorem ggX4_append_X4_in : GoodIn wsX4_append wsX4_in := goodIn_r _ [7] (by decide +kernel) (by decide +kernel)
set_option maxRecDepth 20000 in
theorem gX4_append_X4_in : GoodIn wsX4_append (va_wsS RX4 143 yX4_in wsX4_in) := goodIn_app (goodIn_of _ (by decide +kernel)) ggX4_append_X4_in
theorem dX4_append_0 : decode cX4_append 0 = .ok (.aload_n 0, 1) := by decide +kernel
theorem dX4_append_1 : decode cX4_append 1 = .ok (.iload_n 1, 1) := by decide +kernel
theorem dX4_append_2 : decode cX4_append 2 = .ok (.iconst 1, 1) := by decide +kernel
theorem dX4_append_3 : decode cX4_append 3 = .ok (.bipush 8, 2) := by decide +kernel
theorem dX4_append_5 : decode cX4_append 5 = .ok (.invokestatic 143, 3) := by decide +kernel
theorem dX4_append_8 : decode cX4_append 8 = .ok (.ifCond .ne 7, 3) := by decide +kernel
theorem dX4_append_11 : decode cX4_append 11 = .ok (.iconst 1, 1) := by decide +kernel
theorem dX4_append_12 : decode cX4_append 12 = .ok (.goto 17, 3) := by decide +kernel
theorem dX4_append_15 : decode cX4_append 15 = .ok (.aload_n 0, 1) := by decide +kernel
theorem dX4_append_16 : decode cX4_append 16 = .ok (.getfield 133, 3) := by decide +kernel
theorem dX4_append_19 : decode cX4_append 19 = .ok (.bipush 12, 2) := by decide +kernel
theorem dX4_append_21 : decode cX4_append 21 = .ok (.if_icmp .ne 7, 3) := by decide +kernel
theorem dX4_append_24 : decode cX4_append 24 = .ok (.iconst 2, 1) := by decide +kernel
theorem dX4_append_25 : decode cX4_append 25 = .ok (.goto 4, 3) := by decide +kernel
theorem dX4_append_28 : decode cX4_append 28 = .ok (.iconst 0, 1) := by decide +kernel
theorem dX4_append_29 : decode cX4_append 29 = .ok (.putfield 40, 3) := by decide +kernel
theorem dX4_append_32 : decode cX4_append 32 = .ok (.aload_n 0, 1) := by decide +kernel
theorem dX4_append_33 : decode cX4_append 33 = .ok (.getfield 40, 3) := by decide +kernel
theorem dX4_append_36 : decode cX4_append 36 = .ok (.ifCond .le 5, 3) := by decide +kernel
theorem dX4_append_39 : decode cX4_append 39 = .ok (.iconst 0, 1) := by decide +kernel
theorem dX4_append_40 : decode cX4_append 40 = .ok (.ireturn, 1) := by decide +kernel
theorem dX4_append_41 : decode cX4_append 41 = .ok (.aload_n 0, 1) := by decide +kernel
theorem dX4_append_42 : decode cX4_append 42 = .ok (.getfield 19, 3) := by decide +kernel
theorem dX4_append_45 : decode cX4_append 45 = .ok (.aload_n 0, 1) := by decide +kernel
theorem dX4_append_46 : decode cX4_append 46 = .ok (.getfield 133, 3) := by decide +kernel
theorem dX4_append_49 : decode cX4_append 49 = .ok (.iload_n 1, 1) := by decide +kernel
theorem dX4_append_50 : decode cX4_append 50 = .ok (.iastore, 1) := by decide +kernel
theorem dX4_append_51 : decode cX4_append 51 = .ok (.aload_n 0, 1) := by decide +kernel
theorem dX4_append_52 : decode cX4_append 52 = .ok (.dup, 1) := by decide +kernel
theorem dX4_append_53 : decode cX4_append 53 = .ok (.getfield 133, 3) := by decide +kernel
theorem dX4_append_56 : decode cX4_append 56 = .ok (.iconst 1, 1) := by decide +kernel
theorem dX4_append_57 : decode cX4_append 57 = .ok (.iadd, 1) := by decide +kernel
theorem dX4_append_58 : decode cX4_append 58 = .ok (.putfield 133, 3) := by decide +kernel
theorem dX4_append_61 : decode cX4_append 61 = .ok (.aload_n 0, 1) := by decide +kernel
theorem dX4_append_62 : decode cX4_append 62 = .ok (.getfield 133, 3) := by decide +kernel
theorem dX4_append_65 : decode cX4_append 65 = .ok (.ireturn, 1) := by decide +kernel
theorem dX4_clearBuffer_0 : decode cX4_clearBuffer 0 = .ok (.aload_n 0, 1) := by decide +kernel
theorem dX4_clearBuffer_1 : decode cX4_clearBuffer 1 = .ok (.iconst 0, 1) := by decide +kernel
theorem dX4_clearBuffer_2 : decode cX4_clearBuffer 2 = .ok (.putfield 40, 3) := by decide +kernel
theorem dX4_clearBuffer_5 : decode cX4_clearBuffer 5 = .ok (.aload_n 0, 1) := by decide +kernel
theorem dX4_clearBuffer_6 : decode cX4_clearBuffer 6 = .ok (.getfield 133, 3) := by decide +kernel
theorem dX4_clearBuffer_9 : decode cX4_clearBuffer 9 = .ok (.istore_n 1, 1) := by decide +kernel
theorem dX4_clearBuffer_10 : decode cX4_clearBuffer 10 = .ok (.aload_n 0, 1) := by decide +kernel
theorem dX4_clearBuffer_11 : decode cX4_clearBuffer 11 = .ok (.iconst 0, 1) := by decide +kernel
theorem dX4_clearBuffer_12 : decode cX4_clearBuffer 12 = .ok (.putfield 133, 3) := by decide +kernel
theorem dX4_clearBuffer_15 : decode cX4_clearBuffer 15 = .ok (.iload_n 1, 1) := by decide +kernel
theorem dX4_clearBuffer_16 : decode cX4_clearBuffer 16 = .ok (.ireturn, 1) := by decide +kernel
theorem dX4_drop_0 : decode cX4_drop 0 = .ok (.aload_n 0, 1) := by decide +kernel
theorem dX4_drop_1 : decode cX4_drop 1 = .ok (.aload_n 0, 1) := by decide +kernel
theorem dX4_drop_2 : decode cX4_drop 2 = .ok (.getfield 133, 3) := by decide +kernel
theorem dX4_drop_5 : decode cX4_drop 5 = .ok (.ifCond .ne 7, 3) := by decide +kernel
theorem dX4_drop_8 : decode cX4_drop 8 = .ok (.iconst 1, 1) := by decide +kernel
theorem dX4_drop_9 : decode cX4_drop 9 = .ok (.goto 4, 3) := by decide +kernel
theorem dX4_drop_12 : decode cX4_drop 12 = .ok (.iconst 0, 1) := by decide +kernel
theorem dX4_drop_13 : decode cX4_drop 13 = .ok (.putfield 40, 3) := by decide +kernel
theorem dX4_drop_16 : decode cX4_drop 16 = .ok (.aload_n 0, 1) := by decide +kernel
theorem dX4_drop_17 : decode cX4_drop 17 = .ok (.getfield 40, 3) := by decide +kernel
theorem dX4_drop_20 : decode cX4_drop 20 = .ok (.ifCond .le 5, 3) := by decide +kernel
theorem dX4_drop_23 : decode cX4_drop 23 = .ok (.iconst 0, 1) := by decide +kernel
theorem dX4_drop_24 : decode cX4_drop 24 = .ok (.ireturn, 1) := by decide +kernel
theorem dX4_drop_25 : decode cX4_drop 25 = .ok (.aload_n 0, 1) := by decide +kernel
theorem dX4_drop_26 : decode cX4_drop 26 = .ok (.dup, 1) := by decide +kernel
theorem dX4_drop_27 : decode cX4_drop 27 = .ok (.getfield 133, 3) := by decide +kernel
theorem dX4_drop_30 : decode cX4_drop 30 = .ok (.iconst 1, 1) := by decide +kernel
theorem dX4_drop_31 : decode cX4_drop 31 = .ok (.isub, 1) := by decide +kernel
theorem dX4_drop_32 : decode cX4_drop 32 = .ok (.putfield 133, 3) := by decide +kernel
theorem dX4_drop_35 : decode cX4_drop 35 = .ok (.aload_n 0, 1) := by decide +kernel
theorem dX4_drop_36 : decode cX4_drop 36 = .ok (.getfield 19, 3) := by decide +kernel
theorem dX4_drop_39 : decode cX4_drop 39 = .ok (.aload_n 0, 1) := by decide +kernel
theorem dX4_drop_40 : decode cX4_drop 40 = .ok (.getfield 133, 3) := by decide +kernel
theorem dX4_drop_43 : decode cX4_drop 43 = .ok (.iaload, 1) := by decide +kernel
theorem dX4_drop_44 : decode cX4_drop 44 = .ok (.ireturn, 1) := by decide +kernel
set_option maxRecDepth 20000 in
theorem ggX4_add_X4_addIt : GoodIn wsX4_add wsX4_addIt := goodIn_r _ [7, 8, 9, 10, 11, 12, 6, 13, 14, 15, 16, 17, 18, 19, 2, 20, 21, 22, 23, 24, 25, 26, 27, 28, 29, 30, 31, 32, 33, 34, 35, 36, 37, 38, 39, 40, 41, 42, 43, 44, 45, 46, 47, 48, 49, 50, 51, 52, 53, 54, 55, 56, 57, 58, 59, 60, 61, 62, 63, 64, 65, 66, 67, 68, 69, 70, 71, 72, 73, 74, 75, 76, 77, 78, 79, 80, 81, 82, 83, 84, 85, 86, 87, 88, 89, 90, 91, 92, 93, 94, 95, 96, 97, 98, 99, 100, 101, 102, 103, 104, 105, 106, 107, 108, 109, 110, 111, 112, 113, 114, 115, 122, 123, 124, 125, 126, 127, 128, 129, 130, 131, 132, 133, 134, 135, 136, 137] (by decide +kernel) (by decide +kernel)
set_option maxRecDepth 20000 in
theorem gX4_add_X4_addIt : GoodIn wsX4_add (wsV RX4 147 RX4 yX4_addIt wsX4_addIt) := goodIn_app (goodIn_of _ (by decide +kernel)) ggX4_add_X4_addIt
set_option maxRecDepth 20000 in
theorem ggX4_add_X4_bringBack : GoodIn wsX4_add wsX4_bringBack := goodIn_r _ [115, 15, 14, 122, 123, 124, 125, 126, 127, 128, 129, 130, 131, 132, 133, 134, 135, 136, 137] (by decide +kernel) (by decide +kernel)
set_option maxRecDepth 20000 in
theorem gX4_add_X4_bringBack : GoodIn wsX4_add (wsV RX4 140 RX4 yX4_bringBack wsX4_bringBack) := goodIn_app (goodIn_of _ (by decide +kernel)) ggX4_add_X4_bringBack
set_option maxRecDepth 20000 in
theorem ggX4_add_X4_save : GoodIn wsX4_add wsX4_save := goodIn_r _ [119, 120, 121, 15, 122, 123, 124, 125, 126, 127, 128, 129, 130, 131, 132, 133, 134, 135, 136, 137] (by decide +kernel) (by decide +kernel)
set_option maxRecDepth 20000 in
theorem gX4_add_X4_save : GoodIn wsX4_add (wsV RX4 151 RX4 yX4_save wsX4_save) := goodIn_app (goodIn_of _ (by decide +kernel)) ggX4_add_X4_save
theorem dX4_add_0 : decode cX4_add 0 = .ok (.aload_n 0, 1) := by decide +kernel
theorem dX4_add_1 : decode cX4_add 1 = .ok (.invokevirtual 147, 3) := by decide +kernel
theorem dX4_add_4 : decode cX4_add 4 = .ok (.istore_n 1, 1) := by decide +kernel
theorem dX4_add_5 : decode cX4_add 5 = .ok (.aload_n 0, 1) := by decide +kernel
theorem dX4_add_6 : decode cX4_add 6 = .ok (.iload_n 1, 1) := by decide +kernel
theorem dX4_add_7 : decode cX4_add 7 = .ok (.iconst 3, 1) := by decide +kernel
theorem dX4_add_8 : decode cX4_add 8 = .ok (.if_icmp .ne 7, 3) := by decide +kernel
theorem dX4_add_11 : decode cX4_add 11 = .ok (.iconst 1, 1) := by decide +kernel
theorem dX4_add_12 : decode cX4_add 12 = .ok (.goto 12, 3) := by decide +kernel
theorem dX4_add_15 : decode cX4_add 15 = .ok (.iload_n 1, 1) := by decide +kernel
theorem dX4_add_16 : decode cX4_add 16 = .ok (.ifCond .ne 7, 3) := by decide +kernel
theorem dX4_add_19 : decode cX4_add 19 = .ok (.iconst 0, 1) := by decide +kernel
theorem dX4_add_20 : decode cX4_add 20 = .ok (.goto 4, 3) := by decide +kernel
theorem dX4_add_23 : decode cX4_add 23 = .ok (.iconst 2, 1) := by decide +kernel
theorem dX4_add_24 : decode cX4_add 24 = .ok (.putfield 40, 3) := by decide +kernel
theorem dX4_add_27 : decode cX4_add 27 = .ok (.aload_n 0, 1) := by decide +kernel
theorem dX4_add_28 : decode cX4_add 28 = .ok (.getfield 40, 3) := by decide +kernel
theorem dX4_add_31 : decode cX4_add 31 = .ok (.ifCond .le 5, 3) := by decide +kernel
theorem dX4_add_34 : decode cX4_add 34 = .ok (.iconst 0, 1) := by decide +kernel
theorem dX4_add_35 : decode cX4_add 35 = .ok (.ireturn, 1) := by decide +kernel
theorem dX4_add_36 : decode cX4_add 36 = .ok (.aload_n 0, 1) := by decide +kernel
theorem dX4_add_37 : decode cX4_add 37 = .ok (.getfield 110, 3) := by decide +kernel
theorem dX4_add_40 : decode cX4_add 40 = .ok (.istore_n 2, 1) := by decide +kernel
theorem dX4_add_41 : decode cX4_add 41 = .ok (.aload_n 0, 1) := by decide +kernel
theorem dX4_add_42 : decode cX4_add 42 = .ok (.invokevirtual 140, 3) := by decide +kernel
theorem dX4_add_45 : decode cX4_add 45 = .ok (.aload_n 0, 1) := by decide +kernel
theorem dX4_add_46 : decode cX4_add 46 = .ok (.invokevirtual 151, 3) := by decide +kernel
theorem dX4_add_49 : decode cX4_add 49 = .ok (.aload_n 0, 1) := by decide +kernel
theorem dX4_add_50 : decode cX4_add 50 = .ok (.invokevirtual 147, 3) := by decide +kernel
theorem dX4_add_53 : decode cX4_add 53 = .ok (.pop, 1) := by decide +kernel
theorem dX4_add_54 : decode cX4_add 54 = .ok (.iload_n 2, 1) := by decide +kernel
theorem dX4_add_55 : decode cX4_add 55 = .ok (.ireturn, 1) := by decide +kernel
set_option maxRecDepth 20000 in
theorem ggX4_leafOf_X4_isLeaf : GoodIn wsX4_leafOf wsX4_isLeaf := goodIn_r _ [6, 1, 35, 36, 37, 38, 39, 40, 41, 42, 43, 44, 45, 46, 47, 48, 49, 50] (by decide +kernel) (by decide +kernel)
set_option maxRecDepth 20000 in
theorem gX4_leafOf_X4_isLeaf : GoodIn wsX4_leafOf (wsV RX4 123 RX4 yX4_isLeaf wsX4_isLeaf) := goodIn_app (goodIn_of _ (by decide +kernel)) ggX4_leafOf_X4_isLeaf
set_option maxRecDepth 20000 in
theorem ggX4_leafOf_X4_child : GoodIn wsX4_leafOf wsX4_child := goodIn_r _ [10, 1, 11, 12, 13, 5, 14, 15, 16, 17, 18, 35, 36, 37, 38, 39, 40, 41, 42, 43, 44, 45, 46, 47, 48, 49, 50] (by decide +kernel) (by decide +kernel)
set_option maxRecDepth 20000 in
theorem gX4_leafOf_X4_child : GoodIn wsX4_leafOf (wsV RX4 59 RX4 yX4_child wsX4_child) := goodIn_app (goodIn_of _ (by decide +kernel)) ggX4_leafOf_X4_child
set_option maxRecDepth 20000 in
theorem ggX4_leafOf_X4_isEnd : GoodIn wsX4_leafOf wsX4_isEnd := goodIn_r _ [22, 23, 24, 25, 5, 26, 1, 27, 28, 29, 30, 31, 32, 33, 34, 35, 36, 37, 38, 39, 40, 41, 42, 43, 44, 45, 46, 47, 48, 49, 50] (by decide +kernel) (by decide +kernel)
