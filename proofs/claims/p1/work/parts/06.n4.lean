theorem dX12_begins_19 : decode cX12_begins 19 = .ok (.goto (-17), 3) := by decide +kernel
theorem dX12_begins_22 : decode cX12_begins 22 = .ok (.aload_n 0, 1) := by decide +kernel
theorem dX12_begins_23 : decode cX12_begins 23 = .ok (.getfield 73, 3) := by decide +kernel
theorem dX12_begins_26 : decode cX12_begins 26 = .ok (.iconst 0, 1) := by decide +kernel
theorem dX12_begins_27 : decode cX12_begins 27 = .ok (.aload_n 0, 1) := by decide +kernel
theorem dX12_begins_28 : decode cX12_begins 28 = .ok (.getfield 43, 3) := by decide +kernel
theorem dX12_begins_31 : decode cX12_begins 31 = .ok (.aload_n 0, 1) := by decide +kernel
theorem dX12_begins_32 : decode cX12_begins 32 = .ok (.getfield 197, 3) := by decide +kernel
theorem dX12_begins_35 : decode cX12_begins 35 = .ok (.iaload, 1) := by decide +kernel
theorem dX12_begins_36 : decode cX12_begins 36 = .ok (.iastore, 1) := by decide +kernel
theorem dX12_begins_37 : decode cX12_begins 37 = .ok (.iconst 0, 1) := by decide +kernel
theorem dX12_begins_38 : decode cX12_begins 38 = .ok (.istore_n 1, 1) := by decide +kernel
theorem dX12_begins_39 : decode cX12_begins 39 = .ok (.iload_n 1, 1) := by decide +kernel
theorem dX12_begins_40 : decode cX12_begins 40 = .ok (.aload_n 0, 1) := by decide +kernel
theorem dX12_begins_41 : decode cX12_begins 41 = .ok (.getfield 73, 3) := by decide +kernel
theorem dX12_begins_44 : decode cX12_begins 44 = .ok (.iconst 0, 1) := by decide +kernel
theorem dX12_begins_45 : decode cX12_begins 45 = .ok (.iaload, 1) := by decide +kernel
theorem dX12_begins_46 : decode cX12_begins 46 = .ok (.if_icmp .ge 32, 3) := by decide +kernel
theorem dX12_begins_49 : decode cX12_begins 49 = .ok (.aload_n 0, 1) := by decide +kernel
theorem dX12_begins_50 : decode cX12_begins 50 = .ok (.getfield 73, 3) := by decide +kernel
theorem dX12_begins_53 : decode cX12_begins 53 = .ok (.iconst 1, 1) := by decide +kernel
theorem dX12_begins_54 : decode cX12_begins 54 = .ok (.iload_n 1, 1) := by decide +kernel
theorem dX12_begins_55 : decode cX12_begins 55 = .ok (.iadd, 1) := by decide +kernel
theorem dX12_begins_56 : decode cX12_begins 56 = .ok (.aload_n 0, 1) := by decide +kernel
theorem dX12_begins_57 : decode cX12_begins 57 = .ok (.getfield 46, 3) := by decide +kernel
theorem dX12_begins_60 : decode cX12_begins 60 = .ok (.sipush 160, 3) := by decide +kernel
theorem dX12_begins_63 : decode cX12_begins 63 = .ok (.aload_n 0, 1) := by decide +kernel
theorem dX12_begins_64 : decode cX12_begins 64 = .ok (.getfield 197, 3) := by decide +kernel
theorem dX12_begins_67 : decode cX12_begins 67 = .ok (.imul, 1) := by decide +kernel
theorem dX12_begins_68 : decode cX12_begins 68 = .ok (.iload_n 1, 1) := by decide +kernel
theorem dX12_begins_69 : decode cX12_begins 69 = .ok (.iadd, 1) := by decide +kernel
theorem dX12_begins_70 : decode cX12_begins 70 = .ok (.iaload, 1) := by decide +kernel
theorem dX12_begins_71 : decode cX12_begins 71 = .ok (.iastore, 1) := by decide +kernel
theorem dX12_begins_72 : decode cX12_begins 72 = .ok (.iinc 1 1, 3) := by decide +kernel
theorem dX12_begins_75 : decode cX12_begins 75 = .ok (.goto (-36), 3) := by decide +kernel
theorem dX12_begins_78 : decode cX12_begins 78 = .ok (.aload_n 0, 1) := by decide +kernel
theorem dX12_begins_79 : decode cX12_begins 79 = .ok (.getfield 73, 3) := by decide +kernel
theorem dX12_begins_82 : decode cX12_begins 82 = .ok (.sipush 161, 3) := by decide +kernel
theorem dX12_begins_85 : decode cX12_begins 85 = .ok (.aload_n 0, 1) := by decide +kernel
theorem dX12_begins_86 : decode cX12_begins 86 = .ok (.getfield 58, 3) := by decide +kernel
theorem dX12_begins_89 : decode cX12_begins 89 = .ok (.aload_n 0, 1) := by decide +kernel
theorem dX12_begins_90 : decode cX12_begins 90 = .ok (.getfield 197, 3) := by decide +kernel
theorem dX12_begins_93 : decode cX12_begins 93 = .ok (.iaload, 1) := by decide +kernel
theorem dX12_begins_94 : decode cX12_begins 94 = .ok (.iastore, 1) := by decide +kernel
theorem dX12_begins_95 : decode cX12_begins 95 = .ok (.aload_n 0, 1) := by decide +kernel
theorem dX12_begins_96 : decode cX12_begins 96 = .ok (.getfield 73, 3) := by decide +kernel
theorem dX12_begins_99 : decode cX12_begins 99 = .ok (.sipush 162, 3) := by decide +kernel
theorem dX12_begins_102 : decode cX12_begins 102 = .ok (.aload_n 0, 1) := by decide +kernel
theorem dX12_begins_103 : decode cX12_begins 103 = .ok (.getfield 61, 3) := by decide +kernel
theorem dX12_begins_106 : decode cX12_begins 106 = .ok (.aload_n 0, 1) := by decide +kernel
theorem dX12_begins_107 : decode cX12_begins 107 = .ok (.getfield 197, 3) := by decide +kernel
theorem dX12_begins_110 : decode cX12_begins 110 = .ok (.iaload, 1) := by decide +kernel
theorem dX12_begins_111 : decode cX12_begins 111 = .ok (.iastore, 1) := by decide +kernel
theorem dX12_begins_112 : decode cX12_begins 112 = .ok (.aload_n 0, 1) := by decide +kernel
theorem dX12_begins_113 : decode cX12_begins 113 = .ok (.getfield 73, 3) := by decide +kernel
theorem dX12_begins_116 : decode cX12_begins 116 = .ok (.sipush 163, 3) := by decide +kernel
theorem dX12_begins_119 : decode cX12_begins 119 = .ok (.aload_n 0, 1) := by decide +kernel
theorem dX12_begins_120 : decode cX12_begins 120 = .ok (.getfield 64, 3) := by decide +kernel
theorem dX12_begins_123 : decode cX12_begins 123 = .ok (.aload_n 0, 1) := by decide +kernel
theorem dX12_begins_124 : decode cX12_begins 124 = .ok (.getfield 197, 3) := by decide +kernel
theorem dX12_begins_127 : decode cX12_begins 127 = .ok (.iaload, 1) := by decide +kernel
theorem dX12_begins_128 : decode cX12_begins 128 = .ok (.iastore, 1) := by decide +kernel
theorem dX12_begins_129 : decode cX12_begins 129 = .ok (.aload_n 0, 1) := by decide +kernel
theorem dX12_begins_130 : decode cX12_begins 130 = .ok (.getfield 73, 3) := by decide +kernel
theorem dX12_begins_133 : decode cX12_begins 133 = .ok (.sipush 164, 3) := by decide +kernel
theorem dX12_begins_136 : decode cX12_begins 136 = .ok (.aload_n 0, 1) := by decide +kernel
theorem dX12_begins_137 : decode cX12_begins 137 = .ok (.getfield 67, 3) := by decide +kernel
theorem dX12_begins_140 : decode cX12_begins 140 = .ok (.aload_n 0, 1) := by decide +kernel
theorem dX12_begins_141 : decode cX12_begins 141 = .ok (.getfield 197, 3) := by decide +kernel
theorem dX12_begins_144 : decode cX12_begins 144 = .ok (.iaload, 1) := by decide +kernel
theorem dX12_begins_145 : decode cX12_begins 145 = .ok (.iastore, 1) := by decide +kernel
theorem dX12_begins_146 : decode cX12_begins 146 = .ok (.return_, 1) := by decide +kernel
theorem dX12_keepsRow_0 : decode cX12_keepsRow 0 = .ok (.iconst 0, 1) := by decide +kernel
theorem dX12_keepsRow_1 : decode cX12_keepsRow 1 = .ok (.istore_n 1, 1) := by decide +kernel
theorem dX12_keepsRow_2 : decode cX12_keepsRow 2 = .ok (.iload_n 1, 1) := by decide +kernel
theorem dX12_keepsRow_3 : decode cX12_keepsRow 3 = .ok (.sipush 165, 3) := by decide +kernel
theorem dX12_keepsRow_6 : decode cX12_keepsRow 6 = .ok (.if_icmp .ge 21, 3) := by decide +kernel
theorem dX12_keepsRow_9 : decode cX12_keepsRow 9 = .ok (.aload_n 0, 1) := by decide +kernel
theorem dX12_keepsRow_10 : decode cX12_keepsRow 10 = .ok (.getfield 70, 3) := by decide +kernel
theorem dX12_keepsRow_13 : decode cX12_keepsRow 13 = .ok (.iload_n 1, 1) := by decide +kernel
theorem dX12_keepsRow_14 : decode cX12_keepsRow 14 = .ok (.aload_n 0, 1) := by decide +kernel
theorem dX12_keepsRow_15 : decode cX12_keepsRow 15 = .ok (.getfield 73, 3) := by decide +kernel
theorem dX12_keepsRow_18 : decode cX12_keepsRow 18 = .ok (.iload_n 1, 1) := by decide +kernel
theorem dX12_keepsRow_19 : decode cX12_keepsRow 19 = .ok (.iaload, 1) := by decide +kernel
theorem dX12_keepsRow_20 : decode cX12_keepsRow 20 = .ok (.iastore, 1) := by decide +kernel
theorem dX12_keepsRow_21 : decode cX12_keepsRow 21 = .ok (.iinc 1 1, 3) := by decide +kernel
theorem dX12_keepsRow_24 : decode cX12_keepsRow 24 = .ok (.goto (-22), 3) := by decide +kernel
theorem dX12_keepsRow_27 : decode cX12_keepsRow 27 = .ok (.return_, 1) := by decide +kernel
theorem dX12_copies_0 : decode cX12_copies 0 = .ok (.iconst 0, 1) := by decide +kernel
theorem dX12_copies_1 : decode cX12_copies 1 = .ok (.istore_n 1, 1) := by decide +kernel
theorem dX12_copies_2 : decode cX12_copies 2 = .ok (.iload_n 1, 1) := by decide +kernel
theorem dX12_copies_3 : decode cX12_copies 3 = .ok (.sipush 165, 3) := by decide +kernel
theorem dX12_copies_6 : decode cX12_copies 6 = .ok (.if_icmp .ge 21, 3) := by decide +kernel
theorem dX12_copies_9 : decode cX12_copies 9 = .ok (.aload_n 0, 1) := by decide +kernel
theorem dX12_copies_10 : decode cX12_copies 10 = .ok (.getfield 73, 3) := by decide +kernel
theorem dX12_copies_13 : decode cX12_copies 13 = .ok (.iload_n 1, 1) := by decide +kernel
theorem dX12_copies_14 : decode cX12_copies 14 = .ok (.aload_n 0, 1) := by decide +kernel
theorem dX12_copies_15 : decode cX12_copies 15 = .ok (.getfield 70, 3) := by decide +kernel
theorem dX12_copies_18 : decode cX12_copies 18 = .ok (.iload_n 1, 1) := by decide +kernel
theorem dX12_copies_19 : decode cX12_copies 19 = .ok (.iaload, 1) := by decide +kernel
theorem dX12_copies_20 : decode cX12_copies 20 = .ok (.iastore, 1) := by decide +kernel
theorem dX12_copies_21 : decode cX12_copies 21 = .ok (.iinc 1 1, 3) := by decide +kernel
theorem dX12_copies_24 : decode cX12_copies 24 = .ok (.goto (-22), 3) := by decide +kernel
theorem dX12_copies_27 : decode cX12_copies 27 = .ok (.return_, 1) := by decide +kernel
set_option maxRecDepth 20000 in
theorem ggX12_isPlace_X12_in : GoodIn wsX12_isPlace wsX12_in := goodIn_r _ [5] (by decide +kernel) (by decide +kernel)
set_option maxRecDepth 20000 in
theorem gX12_isPlace_X12_in : GoodIn wsX12_isPlace (va_wsS RX12 244 yX12_in wsX12_in) := goodIn_app (goodIn_of _ (by decide +kernel)) ggX12_isPlace_X12_in
theorem dX12_isPlace_0 : decode cX12_isPlace 0 = .ok (.iload_n 1, 1) := by decide +kernel
theorem dX12_isPlace_1 : decode cX12_isPlace 1 = .ok (.iconst 0, 1) := by decide +kernel
theorem dX12_isPlace_2 : decode cX12_isPlace 2 = .ok (.aload_n 0, 1) := by decide +kernel
theorem dX12_isPlace_3 : decode cX12_isPlace 3 = .ok (.getfield 70, 3) := by decide +kernel
theorem dX12_isPlace_6 : decode cX12_isPlace 6 = .ok (.iconst 0, 1) := by decide +kernel
theorem dX12_isPlace_7 : decode cX12_isPlace 7 = .ok (.iaload, 1) := by decide +kernel
theorem dX12_isPlace_8 : decode cX12_isPlace 8 = .ok (.iconst 1, 1) := by decide +kernel
theorem dX12_isPlace_9 : decode cX12_isPlace 9 = .ok (.isub, 1) := by decide +kernel
theorem dX12_isPlace_10 : decode cX12_isPlace 10 = .ok (.invokestatic 244, 3) := by decide +kernel
theorem dX12_isPlace_13 : decode cX12_isPlace 13 = .ok (.ireturn, 1) := by decide +kernel
set_option maxRecDepth 20000 in
theorem ggX12_isThere_X12_isPlace : GoodIn wsX12_isThere wsX12_isPlace := goodIn_r _ [7, 1, 8, 9, 6, 10, 11, 12, 13, 14, 15, 16, 17, 18, 19, 20, 21, 22, 23, 24, 25, 26, 27, 28, 29, 30, 31, 32, 33, 34, 35, 36, 37, 38, 39, 40, 41, 42, 43, 44, 45, 46, 47, 48, 49, 50, 51, 52, 53, 54, 55, 56, 57, 58, 59, 60, 61, 62, 63, 64, 65] (by decide +kernel) (by decide +kernel)
set_option maxRecDepth 20000 in
theorem gX12_isThere_X12_isPlace : GoodIn wsX12_isThere (wsV RX12 248 RX12 yX12_isPlace wsX12_isPlace) := goodIn_app (goodIn_of _ (by decide +kernel)) ggX12_isThere_X12_isPlace
theorem dX12_isThere_0 : decode cX12_isThere 0 = .ok (.aload_n 0, 1) := by decide +kernel
theorem dX12_isThere_1 : decode cX12_isThere 1 = .ok (.iload_n 1, 1) := by decide +kernel
theorem dX12_isThere_2 : decode cX12_isThere 2 = .ok (.invokevirtual 248, 3) := by decide +kernel
theorem dX12_isThere_5 : decode cX12_isThere 5 = .ok (.ifCond .eq 20, 3) := by decide +kernel
theorem dX12_isThere_8 : decode cX12_isThere 8 = .ok (.aload_n 0, 1) := by decide +kernel
theorem dX12_isThere_9 : decode cX12_isThere 9 = .ok (.getfield 70, 3) := by decide +kernel
theorem dX12_isThere_12 : decode cX12_isThere 12 = .ok (.iconst 1, 1) := by decide +kernel
theorem dX12_isThere_13 : decode cX12_isThere 13 = .ok (.iload_n 1, 1) := by decide +kernel
theorem dX12_isThere_14 : decode cX12_isThere 14 = .ok (.iadd, 1) := by decide +kernel
theorem dX12_isThere_15 : decode cX12_isThere 15 = .ok (.iaload, 1) := by decide +kernel
theorem dX12_isThere_16 : decode cX12_isThere 16 = .ok (.ldc 239, 2) := by decide +kernel
theorem dX12_isThere_18 : decode cX12_isThere 18 = .ok (.if_icmp .eq 7, 3) := by decide +kernel
theorem dX12_isThere_21 : decode cX12_isThere 21 = .ok (.iconst 1, 1) := by decide +kernel
theorem dX12_isThere_22 : decode cX12_isThere 22 = .ok (.goto 4, 3) := by decide +kernel
theorem dX12_isThere_25 : decode cX12_isThere 25 = .ok (.iconst 0, 1) := by decide +kernel
theorem dX12_isThere_26 : decode cX12_isThere 26 = .ok (.ireturn, 1) := by decide +kernel
theorem dX12_isWindow_0 : decode cX12_isWindow 0 = .ok (.iload_n 1, 1) := by decide +kernel
theorem dX12_isWindow_1 : decode cX12_isWindow 1 = .ok (.ifCond .lt 20, 3) := by decide +kernel
theorem dX12_isWindow_4 : decode cX12_isWindow 4 = .ok (.iload_n 2, 1) := by decide +kernel
theorem dX12_isWindow_5 : decode cX12_isWindow 5 = .ok (.iconst 1, 1) := by decide +kernel
theorem dX12_isWindow_6 : decode cX12_isWindow 6 = .ok (.if_icmp .lt 15, 3) := by decide +kernel
theorem dX12_isWindow_9 : decode cX12_isWindow 9 = .ok (.iload_n 1, 1) := by decide +kernel
theorem dX12_isWindow_10 : decode cX12_isWindow 10 = .ok (.aload_n 0, 1) := by decide +kernel
theorem dX12_isWindow_11 : decode cX12_isWindow 11 = .ok (.getfield 70, 3) := by decide +kernel
theorem dX12_isWindow_14 : decode cX12_isWindow 14 = .ok (.iconst 0, 1) := by decide +kernel
theorem dX12_isWindow_15 : decode cX12_isWindow 15 = .ok (.iaload, 1) := by decide +kernel
theorem dX12_isWindow_16 : decode cX12_isWindow 16 = .ok (.iload_n 2, 1) := by decide +kernel
theorem dX12_isWindow_17 : decode cX12_isWindow 17 = .ok (.isub, 1) := by decide +kernel
theorem dX12_isWindow_18 : decode cX12_isWindow 18 = .ok (.if_icmp .le 5, 3) := by decide +kernel
theorem dX12_isWindow_21 : decode cX12_isWindow 21 = .ok (.iconst 0, 1) := by decide +kernel
theorem dX12_isWindow_22 : decode cX12_isWindow 22 = .ok (.ireturn, 1) := by decide +kernel
theorem dX12_isWindow_23 : decode cX12_isWindow 23 = .ok (.iload_n 1, 1) := by decide +kernel
theorem dX12_isWindow_24 : decode cX12_isWindow 24 = .ok (.istore_n 3, 1) := by decide +kernel
theorem dX12_isWindow_25 : decode cX12_isWindow 25 = .ok (.iload_n 3, 1) := by decide +kernel
theorem dX12_isWindow_26 : decode cX12_isWindow 26 = .ok (.iload_n 1, 1) := by decide +kernel
theorem dX12_isWindow_27 : decode cX12_isWindow 27 = .ok (.iload_n 2, 1) := by decide +kernel
theorem dX12_isWindow_28 : decode cX12_isWindow 28 = .ok (.iadd, 1) := by decide +kernel
theorem dX12_isWindow_29 : decode cX12_isWindow 29 = .ok (.if_icmp .ge 24, 3) := by decide +kernel
theorem dX12_isWindow_32 : decode cX12_isWindow 32 = .ok (.aload_n 0, 1) := by decide +kernel
theorem dX12_isWindow_33 : decode cX12_isWindow 33 = .ok (.getfield 70, 3) := by decide +kernel
theorem dX12_isWindow_36 : decode cX12_isWindow 36 = .ok (.iconst 1, 1) := by decide +kernel
theorem dX12_isWindow_37 : decode cX12_isWindow 37 = .ok (.iload_n 3, 1) := by decide +kernel
theorem dX12_isWindow_38 : decode cX12_isWindow 38 = .ok (.iadd, 1) := by decide +kernel
theorem dX12_isWindow_39 : decode cX12_isWindow 39 = .ok (.iaload, 1) := by decide +kernel
theorem dX12_isWindow_40 : decode cX12_isWindow 40 = .ok (.ldc 239, 2) := by decide +kernel
theorem dX12_isWindow_42 : decode cX12_isWindow 42 = .ok (.if_icmp .ne 5, 3) := by decide +kernel
theorem dX12_isWindow_45 : decode cX12_isWindow 45 = .ok (.iconst 0, 1) := by decide +kernel
theorem dX12_isWindow_46 : decode cX12_isWindow 46 = .ok (.ireturn, 1) := by decide +kernel
theorem dX12_isWindow_47 : decode cX12_isWindow 47 = .ok (.iinc 3 1, 3) := by decide +kernel
theorem dX12_isWindow_50 : decode cX12_isWindow 50 = .ok (.goto (-25), 3) := by decide +kernel
theorem dX12_isWindow_53 : decode cX12_isWindow 53 = .ok (.iconst 1, 1) := by decide +kernel
theorem dX12_isWindow_54 : decode cX12_isWindow 54 = .ok (.ireturn, 1) := by decide +kernel
set_option maxRecDepth 20000 in
theorem ggX12_isQuery_X12_in : GoodIn wsX12_isQuery wsX12_in := goodIn_r _ [6] (by decide +kernel) (by decide +kernel)
set_option maxRecDepth 20000 in
theorem gX12_isQuery_X12_in : GoodIn wsX12_isQuery (va_wsS RX12 244 yX12_in wsX12_in) := goodIn_app (goodIn_of _ (by decide +kernel)) ggX12_isQuery_X12_in
theorem dX12_isQuery_0 : decode cX12_isQuery 0 = .ok (.iload_n 1, 1) := by decide +kernel
theorem dX12_isQuery_1 : decode cX12_isQuery 1 = .ok (.iconst 0, 1) := by decide +kernel
theorem dX12_isQuery_2 : decode cX12_isQuery 2 = .ok (.aload_n 0, 1) := by decide +kernel
theorem dX12_isQuery_3 : decode cX12_isQuery 3 = .ok (.getfield 49, 3) := by decide +kernel
theorem dX12_isQuery_6 : decode cX12_isQuery 6 = .ok (.aload_n 0, 1) := by decide +kernel
theorem dX12_isQuery_7 : decode cX12_isQuery 7 = .ok (.getfield 197, 3) := by decide +kernel
theorem dX12_isQuery_10 : decode cX12_isQuery 10 = .ok (.iaload, 1) := by decide +kernel
theorem dX12_isQuery_11 : decode cX12_isQuery 11 = .ok (.iconst 1, 1) := by decide +kernel
theorem dX12_isQuery_12 : decode cX12_isQuery 12 = .ok (.isub, 1) := by decide +kernel
theorem dX12_isQuery_13 : decode cX12_isQuery 13 = .ok (.invokestatic 244, 3) := by decide +kernel
theorem dX12_isQuery_16 : decode cX12_isQuery 16 = .ok (.ireturn, 1) := by decide +kernel
theorem dX12_wideOf_0 : decode cX12_wideOf 0 = .ok (.aload_n 0, 1) := by decide +kernel
theorem dX12_wideOf_1 : decode cX12_wideOf 1 = .ok (.getfield 52, 3) := by decide +kernel
theorem dX12_wideOf_4 : decode cX12_wideOf 4 = .ok (.iconst 5, 1) := by decide +kernel
theorem dX12_wideOf_5 : decode cX12_wideOf 5 = .ok (.aload_n 0, 1) := by decide +kernel
theorem dX12_wideOf_6 : decode cX12_wideOf 6 = .ok (.getfield 197, 3) := by decide +kernel
theorem dX12_wideOf_9 : decode cX12_wideOf 9 = .ok (.imul, 1) := by decide +kernel
theorem dX12_wideOf_10 : decode cX12_wideOf 10 = .ok (.iload_n 1, 1) := by decide +kernel
theorem dX12_wideOf_11 : decode cX12_wideOf 11 = .ok (.iadd, 1) := by decide +kernel
theorem dX12_wideOf_12 : decode cX12_wideOf 12 = .ok (.iaload, 1) := by decide +kernel
theorem dX12_wideOf_13 : decode cX12_wideOf 13 = .ok (.ireturn, 1) := by decide +kernel
set_option maxRecDepth 20000 in
theorem ggX12_isOf_X12_isQuery : GoodIn wsX12_isOf wsX12_isQuery := goodIn_r _ [5, 6, 7, 8, 9, 4, 10, 22, 23, 24, 25, 26, 27, 28, 29, 30, 31, 32, 33, 34, 35, 36, 37, 38, 39, 40, 41, 42, 43, 44, 45, 46, 47, 48, 49, 50, 51, 52, 53, 54, 55, 56, 57, 58, 59, 60, 61, 62, 63, 64, 65, 66, 67, 68, 69, 70, 71, 72, 73, 74, 75, 76] (by decide +kernel) (by decide +kernel)
set_option maxRecDepth 20000 in
theorem gX12_isOf_X12_isQuery : GoodIn wsX12_isOf (wsV RX12 251 RX12 yX12_isQuery wsX12_isQuery) := goodIn_app (goodIn_of _ (by decide +kernel)) ggX12_isOf_X12_isQuery
set_option maxRecDepth 20000 in
theorem ggX12_isOf_X12_wideOf : GoodIn wsX12_isOf wsX12_wideOf := goodIn_r _ [14, 15, 7, 22, 23, 24, 25, 26, 27, 28, 29, 30, 31, 32, 33, 34, 35, 36, 37, 38, 39, 40, 41, 42, 43, 44, 45, 46, 47, 48, 49, 50, 51, 52, 53, 54, 55, 56, 57, 58, 59, 60, 61, 62, 63, 64, 65, 66, 67, 68, 69, 70, 71, 72, 73, 74, 75, 76] (by decide +kernel) (by decide +kernel)
set_option maxRecDepth 20000 in
theorem gX12_isOf_X12_wideOf : GoodIn wsX12_isOf (wsV RX12 254 RX12 yX12_wideOf wsX12_wideOf) := goodIn_app (goodIn_of _ (by decide +kernel)) ggX12_isOf_X12_wideOf
set_option maxRecDepth 20000 in
theorem ggX12_isOf_X12_isWindow : GoodIn wsX12_isOf wsX12_isWindow := goodIn_r _ [19, 20, 21, 22, 23, 24, 25, 26, 27, 28, 29, 30, 31, 32, 33, 34, 35, 36, 37, 38, 39, 40, 41, 42, 43, 44, 45, 46, 47, 48, 49, 50, 51, 52, 53, 54, 55, 56, 57, 58, 59, 60, 61, 62, 63, 64, 65, 66, 67, 68, 69, 70, 71, 72, 73, 74, 75, 76] (by decide +kernel) (by decide +kernel)
set_option maxRecDepth 20000 in
theorem gX12_isOf_X12_isWindow : GoodIn wsX12_isOf (wsV RX12 257 RX12 yX12_isWindow wsX12_isWindow) := goodIn_app (goodIn_of _ (by decide +kernel)) ggX12_isOf_X12_isWindow
theorem dX12_isOf_0 : decode cX12_isOf 0 = .ok (.aload_n 0, 1) := by decide +kernel
theorem dX12_isOf_1 : decode cX12_isOf 1 = .ok (.iload_n 1, 1) := by decide +kernel
theorem dX12_isOf_2 : decode cX12_isOf 2 = .ok (.invokevirtual 251, 3) := by decide +kernel
theorem dX12_isOf_5 : decode cX12_isOf 5 = .ok (.ifCond .eq 20, 3) := by decide +kernel
theorem dX12_isOf_8 : decode cX12_isOf 8 = .ok (.aload_n 0, 1) := by decide +kernel
theorem dX12_isOf_9 : decode cX12_isOf 9 = .ok (.iload_n 2, 1) := by decide +kernel
theorem dX12_isOf_10 : decode cX12_isOf 10 = .ok (.aload_n 0, 1) := by decide +kernel
theorem dX12_isOf_11 : decode cX12_isOf 11 = .ok (.iload_n 1, 1) := by decide +kernel
theorem dX12_isOf_12 : decode cX12_isOf 12 = .ok (.invokevirtual 254, 3) := by decide +kernel
theorem dX12_isOf_15 : decode cX12_isOf 15 = .ok (.invokevirtual 257, 3) := by decide +kernel
theorem dX12_isOf_18 : decode cX12_isOf 18 = .ok (.ifCond .eq 7, 3) := by decide +kernel
theorem dX12_isOf_21 : decode cX12_isOf 21 = .ok (.iconst 1, 1) := by decide +kernel
theorem dX12_isOf_22 : decode cX12_isOf 22 = .ok (.goto 4, 3) := by decide +kernel
theorem dX12_isOf_25 : decode cX12_isOf 25 = .ok (.iconst 0, 1) := by decide +kernel
theorem dX12_isOf_26 : decode cX12_isOf 26 = .ok (.ireturn, 1) := by decide +kernel
set_option maxRecDepth 20000 in
theorem ggX12_levelsFirst_X12_downBy : GoodIn wsX12_levelsFirst wsX12_downBy := goodIn_r _ [6] (by decide +kernel) (by decide +kernel)
set_option maxRecDepth 20000 in
theorem gX12_levelsFirst_X12_downBy : GoodIn wsX12_levelsFirst (va_wsS RX12 261 yX12_downBy wsX12_downBy) := goodIn_app (goodIn_of _ (by decide +kernel)) ggX12_levelsFirst_X12_downBy
theorem dX12_levelsFirst_0 : decode cX12_levelsFirst 0 = .ok (.iconst 0, 1) := by decide +kernel
theorem dX12_levelsFirst_1 : decode cX12_levelsFirst 1 = .ok (.istore_n 2, 1) := by decide +kernel
theorem dX12_levelsFirst_2 : decode cX12_levelsFirst 2 = .ok (.aload_n 0, 1) := by decide +kernel
theorem dX12_levelsFirst_3 : decode cX12_levelsFirst 3 = .ok (.getfield 76, 3) := by decide +kernel
theorem dX12_levelsFirst_6 : decode cX12_levelsFirst 6 = .ok (.iconst 0, 1) := by decide +kernel
theorem dX12_levelsFirst_7 : decode cX12_levelsFirst 7 = .ok (.iaload, 1) := by decide +kernel
theorem dX12_levelsFirst_8 : decode cX12_levelsFirst 8 = .ok (.istore_n 3, 1) := by decide +kernel
theorem dX12_levelsFirst_9 : decode cX12_levelsFirst 9 = .ok (.aload_n 0, 1) := by decide +kernel
theorem dX12_levelsFirst_10 : decode cX12_levelsFirst 10 = .ok (.getfield 76, 3) := by decide +kernel
theorem dX12_levelsFirst_13 : decode cX12_levelsFirst 13 = .ok (.iconst 0, 1) := by decide +kernel
theorem dX12_levelsFirst_14 : decode cX12_levelsFirst 14 = .ok (.iaload, 1) := by decide +kernel
theorem dX12_levelsFirst_15 : decode cX12_levelsFirst 15 = .ok (.istore 4, 2) := by decide +kernel
theorem dX12_levelsFirst_17 : decode cX12_levelsFirst 17 = .ok (.aload_n 0, 1) := by decide +kernel
theorem dX12_levelsFirst_18 : decode cX12_levelsFirst 18 = .ok (.getfield 76, 3) := by decide +kernel
theorem dX12_levelsFirst_21 : decode cX12_levelsFirst 21 = .ok (.iconst 0, 1) := by decide +kernel
theorem dX12_levelsFirst_22 : decode cX12_levelsFirst 22 = .ok (.iaload, 1) := by decide +kernel
theorem dX12_levelsFirst_23 : decode cX12_levelsFirst 23 = .ok (.istore 5, 2) := by decide +kernel
theorem dX12_levelsFirst_25 : decode cX12_levelsFirst 25 = .ok (.iconst 0, 1) := by decide +kernel
theorem dX12_levelsFirst_26 : decode cX12_levelsFirst 26 = .ok (.istore 6, 2) := by decide +kernel
theorem dX12_levelsFirst_28 : decode cX12_levelsFirst 28 = .ok (.iload 6, 2) := by decide +kernel
theorem dX12_levelsFirst_30 : decode cX12_levelsFirst 30 = .ok (.iload_n 1, 1) := by decide +kernel
theorem dX12_levelsFirst_31 : decode cX12_levelsFirst 31 = .ok (.if_icmp .ge 59, 3) := by decide +kernel
theorem dX12_levelsFirst_34 : decode cX12_levelsFirst 34 = .ok (.iload_n 2, 1) := by decide +kernel
theorem dX12_levelsFirst_35 : decode cX12_levelsFirst 35 = .ok (.aload_n 0, 1) := by decide +kernel
theorem dX12_levelsFirst_36 : decode cX12_levelsFirst 36 = .ok (.getfield 76, 3) := by decide +kernel
theorem dX12_levelsFirst_39 : decode cX12_levelsFirst 39 = .ok (.iload 6, 2) := by decide +kernel
theorem dX12_levelsFirst_41 : decode cX12_levelsFirst 41 = .ok (.iaload, 1) := by decide +kernel
theorem dX12_levelsFirst_42 : decode cX12_levelsFirst 42 = .ok (.iadd, 1) := by decide +kernel
theorem dX12_levelsFirst_43 : decode cX12_levelsFirst 43 = .ok (.istore_n 2, 1) := by decide +kernel
theorem dX12_levelsFirst_44 : decode cX12_levelsFirst 44 = .ok (.aload_n 0, 1) := by decide +kernel
theorem dX12_levelsFirst_45 : decode cX12_levelsFirst 45 = .ok (.getfield 76, 3) := by decide +kernel
theorem dX12_levelsFirst_48 : decode cX12_levelsFirst 48 = .ok (.iload 6, 2) := by decide +kernel
theorem dX12_levelsFirst_50 : decode cX12_levelsFirst 50 = .ok (.iaload, 1) := by decide +kernel
theorem dX12_levelsFirst_51 : decode cX12_levelsFirst 51 = .ok (.iload_n 3, 1) := by decide +kernel
theorem dX12_levelsFirst_52 : decode cX12_levelsFirst 52 = .ok (.if_icmp .ge 11, 3) := by decide +kernel
theorem dX12_levelsFirst_55 : decode cX12_levelsFirst 55 = .ok (.aload_n 0, 1) := by decide +kernel
theorem dX12_levelsFirst_56 : decode cX12_levelsFirst 56 = .ok (.getfield 76, 3) := by decide +kernel
theorem dX12_levelsFirst_59 : decode cX12_levelsFirst 59 = .ok (.iload 6, 2) := by decide +kernel
theorem dX12_levelsFirst_61 : decode cX12_levelsFirst 61 = .ok (.iaload, 1) := by decide +kernel
theorem dX12_levelsFirst_62 : decode cX12_levelsFirst 62 = .ok (.istore_n 3, 1) := by decide +kernel
theorem dX12_levelsFirst_63 : decode cX12_levelsFirst 63 = .ok (.aload_n 0, 1) := by decide +kernel
theorem dX12_levelsFirst_64 : decode cX12_levelsFirst 64 = .ok (.getfield 76, 3) := by decide +kernel
theorem dX12_levelsFirst_67 : decode cX12_levelsFirst 67 = .ok (.iload 6, 2) := by decide +kernel
theorem dX12_levelsFirst_69 : decode cX12_levelsFirst 69 = .ok (.iaload, 1) := by decide +kernel
theorem dX12_levelsFirst_70 : decode cX12_levelsFirst 70 = .ok (.iload 4, 2) := by decide +kernel
theorem dX12_levelsFirst_72 : decode cX12_levelsFirst 72 = .ok (.if_icmp .le 12, 3) := by decide +kernel
theorem dX12_levelsFirst_75 : decode cX12_levelsFirst 75 = .ok (.aload_n 0, 1) := by decide +kernel
theorem dX12_levelsFirst_76 : decode cX12_levelsFirst 76 = .ok (.getfield 76, 3) := by decide +kernel
theorem dX12_levelsFirst_79 : decode cX12_levelsFirst 79 = .ok (.iload 6, 2) := by decide +kernel
theorem dX12_levelsFirst_81 : decode cX12_levelsFirst 81 = .ok (.iaload, 1) := by decide +kernel
theorem dX12_levelsFirst_82 : decode cX12_levelsFirst 82 = .ok (.istore 4, 2) := by decide +kernel
theorem dX12_levelsFirst_84 : decode cX12_levelsFirst 84 = .ok (.iinc 6 1, 3) := by decide +kernel
theorem dX12_levelsFirst_87 : decode cX12_levelsFirst 87 = .ok (.goto (-59), 3) := by decide +kernel
theorem dX12_levelsFirst_90 : decode cX12_levelsFirst 90 = .ok (.iload_n 2, 1) := by decide +kernel
theorem dX12_levelsFirst_91 : decode cX12_levelsFirst 91 = .ok (.iload_n 1, 1) := by decide +kernel
theorem dX12_levelsFirst_92 : decode cX12_levelsFirst 92 = .ok (.invokestatic 261, 3) := by decide +kernel
theorem dX12_levelsFirst_95 : decode cX12_levelsFirst 95 = .ok (.istore 6, 2) := by decide +kernel
theorem dX12_levelsFirst_97 : decode cX12_levelsFirst 97 = .ok (.iconst 0, 1) := by decide +kernel
theorem dX12_levelsFirst_98 : decode cX12_levelsFirst 98 = .ok (.istore 7, 2) := by decide +kernel
theorem dX12_levelsFirst_100 : decode cX12_levelsFirst 100 = .ok (.iload 7, 2) := by decide +kernel
theorem dX12_levelsFirst_102 : decode cX12_levelsFirst 102 = .ok (.iload_n 1, 1) := by decide +kernel
theorem dX12_levelsFirst_103 : decode cX12_levelsFirst 103 = .ok (.if_icmp .ge 111, 3) := by decide +kernel
theorem dX12_levelsFirst_106 : decode cX12_levelsFirst 106 = .ok (.aload_n 0, 1) := by decide +kernel
theorem dX12_levelsFirst_107 : decode cX12_levelsFirst 107 = .ok (.getfield 73, 3) := by decide +kernel
theorem dX12_levelsFirst_110 : decode cX12_levelsFirst 110 = .ok (.sipush 162, 3) := by decide +kernel
theorem dX12_levelsFirst_113 : decode cX12_levelsFirst 113 = .ok (.iaload, 1) := by decide +kernel
theorem dX12_levelsFirst_114 : decode cX12_levelsFirst 114 = .ok (.tableswitch 59 0 2 #[26, 29, 44], 26) := by decide +kernel
theorem dX12_levelsFirst_140 : decode cX12_levelsFirst 140 = .ok (.goto 68, 3) := by decide +kernel
theorem dX12_levelsFirst_143 : decode cX12_levelsFirst 143 = .ok (.aload_n 0, 1) := by decide +kernel
theorem dX12_levelsFirst_144 : decode cX12_levelsFirst 144 = .ok (.getfield 76, 3) := by decide +kernel
theorem dX12_levelsFirst_147 : decode cX12_levelsFirst 147 = .ok (.iload 7, 2) := by decide +kernel
theorem dX12_levelsFirst_149 : decode cX12_levelsFirst 149 = .ok (.dup2, 1) := by decide +kernel
theorem dX12_levelsFirst_150 : decode cX12_levelsFirst 150 = .ok (.iaload, 1) := by decide +kernel
theorem dX12_levelsFirst_151 : decode cX12_levelsFirst 151 = .ok (.iload 6, 2) := by decide +kernel
theorem dX12_levelsFirst_153 : decode cX12_levelsFirst 153 = .ok (.isub, 1) := by decide +kernel
theorem dX12_levelsFirst_154 : decode cX12_levelsFirst 154 = .ok (.iastore, 1) := by decide +kernel
theorem dX12_levelsFirst_155 : decode cX12_levelsFirst 155 = .ok (.goto 53, 3) := by decide +kernel
theorem dX12_levelsFirst_158 : decode cX12_levelsFirst 158 = .ok (.aload_n 0, 1) := by decide +kernel
theorem dX12_levelsFirst_159 : decode cX12_levelsFirst 159 = .ok (.getfield 76, 3) := by decide +kernel
theorem dX12_levelsFirst_162 : decode cX12_levelsFirst 162 = .ok (.iload 7, 2) := by decide +kernel
theorem dX12_levelsFirst_164 : decode cX12_levelsFirst 164 = .ok (.dup2, 1) := by decide +kernel
theorem dX12_levelsFirst_165 : decode cX12_levelsFirst 165 = .ok (.iaload, 1) := by decide +kernel
theorem dX12_levelsFirst_166 : decode cX12_levelsFirst 166 = .ok (.iload 5, 2) := by decide +kernel
theorem dX12_levelsFirst_168 : decode cX12_levelsFirst 168 = .ok (.isub, 1) := by decide +kernel
theorem dX12_levelsFirst_169 : decode cX12_levelsFirst 169 = .ok (.iastore, 1) := by decide +kernel
theorem dX12_levelsFirst_170 : decode cX12_levelsFirst 170 = .ok (.goto 38, 3) := by decide +kernel
theorem dX12_levelsFirst_173 : decode cX12_levelsFirst 173 = .ok (.aload_n 0, 1) := by decide +kernel
theorem dX12_levelsFirst_174 : decode cX12_levelsFirst 174 = .ok (.getfield 76, 3) := by decide +kernel
theorem dX12_levelsFirst_177 : decode cX12_levelsFirst 177 = .ok (.iload 7, 2) := by decide +kernel
theorem dX12_levelsFirst_179 : decode cX12_levelsFirst 179 = .ok (.iload 4, 2) := by decide +kernel
theorem dX12_levelsFirst_181 : decode cX12_levelsFirst 181 = .ok (.iload_n 3, 1) := by decide +kernel
theorem dX12_levelsFirst_182 : decode cX12_levelsFirst 182 = .ok (.if_icmp .ne 7, 3) := by decide +kernel
theorem dX12_levelsFirst_185 : decode cX12_levelsFirst 185 = .ok (.iconst 0, 1) := by decide +kernel
theorem dX12_levelsFirst_186 : decode cX12_levelsFirst 186 = .ok (.goto 21, 3) := by decide +kernel
theorem dX12_levelsFirst_189 : decode cX12_levelsFirst 189 = .ok (.sipush 1000, 3) := by decide +kernel
theorem dX12_levelsFirst_192 : decode cX12_levelsFirst 192 = .ok (.aload_n 0, 1) := by decide +kernel
theorem dX12_levelsFirst_193 : decode cX12_levelsFirst 193 = .ok (.getfield 76, 3) := by decide +kernel
theorem dX12_levelsFirst_196 : decode cX12_levelsFirst 196 = .ok (.iload 7, 2) := by decide +kernel
theorem dX12_levelsFirst_198 : decode cX12_levelsFirst 198 = .ok (.iaload, 1) := by decide +kernel
theorem dX12_levelsFirst_199 : decode cX12_levelsFirst 199 = .ok (.iload_n 3, 1) := by decide +kernel
theorem dX12_levelsFirst_200 : decode cX12_levelsFirst 200 = .ok (.isub, 1) := by decide +kernel
theorem dX12_levelsFirst_201 : decode cX12_levelsFirst 201 = .ok (.imul, 1) := by decide +kernel
theorem dX12_levelsFirst_202 : decode cX12_levelsFirst 202 = .ok (.iload 4, 2) := by decide +kernel
theorem dX12_levelsFirst_204 : decode cX12_levelsFirst 204 = .ok (.iload_n 3, 1) := by decide +kernel
theorem dX12_levelsFirst_205 : decode cX12_levelsFirst 205 = .ok (.isub, 1) := by decide +kernel
theorem dX12_levelsFirst_206 : decode cX12_levelsFirst 206 = .ok (.idiv, 1) := by decide +kernel
theorem dX12_levelsFirst_207 : decode cX12_levelsFirst 207 = .ok (.iastore, 1) := by decide +kernel
theorem dX12_levelsFirst_208 : decode cX12_levelsFirst 208 = .ok (.iinc 7 1, 3) := by decide +kernel
theorem dX12_levelsFirst_211 : decode cX12_levelsFirst 211 = .ok (.goto (-111), 3) := by decide +kernel
theorem dX12_levelsFirst_214 : decode cX12_levelsFirst 214 = .ok (.return_, 1) := by decide +kernel
theorem dX12_changesBoth_0 : decode cX12_changesBoth 0 = .ok (.iconst 0, 1) := by decide +kernel
theorem dX12_changesBoth_1 : decode cX12_changesBoth 1 = .ok (.istore_n 2, 1) := by decide +kernel
theorem dX12_changesBoth_2 : decode cX12_changesBoth 2 = .ok (.iload_n 2, 1) := by decide +kernel
theorem dX12_changesBoth_3 : decode cX12_changesBoth 3 = .ok (.iload_n 1, 1) := by decide +kernel
theorem dX12_changesBoth_4 : decode cX12_changesBoth 4 = .ok (.if_icmp .ge 35, 3) := by decide +kernel
theorem dX12_changesBoth_7 : decode cX12_changesBoth 7 = .ok (.aload_n 0, 1) := by decide +kernel
theorem dX12_changesBoth_8 : decode cX12_changesBoth 8 = .ok (.getfield 76, 3) := by decide +kernel
theorem dX12_changesBoth_11 : decode cX12_changesBoth 11 = .ok (.iload_n 2, 1) := by decide +kernel
theorem dX12_changesBoth_12 : decode cX12_changesBoth 12 = .ok (.iaload, 1) := by decide +kernel
theorem dX12_changesBoth_13 : decode cX12_changesBoth 13 = .ok (.istore_n 3, 1) := by decide +kernel
theorem dX12_changesBoth_14 : decode cX12_changesBoth 14 = .ok (.aload_n 0, 1) := by decide +kernel
theorem dX12_changesBoth_15 : decode cX12_changesBoth 15 = .ok (.getfield 76, 3) := by decide +kernel
theorem dX12_changesBoth_18 : decode cX12_changesBoth 18 = .ok (.iload_n 2, 1) := by decide +kernel
theorem dX12_changesBoth_19 : decode cX12_changesBoth 19 = .ok (.aload_n 0, 1) := by decide +kernel
theorem dX12_changesBoth_20 : decode cX12_changesBoth 20 = .ok (.getfield 79, 3) := by decide +kernel
theorem dX12_changesBoth_23 : decode cX12_changesBoth 23 = .ok (.iload_n 2, 1) := by decide +kernel
theorem dX12_changesBoth_24 : decode cX12_changesBoth 24 = .ok (.iaload, 1) := by decide +kernel
theorem dX12_changesBoth_25 : decode cX12_changesBoth 25 = .ok (.iastore, 1) := by decide +kernel
theorem dX12_changesBoth_26 : decode cX12_changesBoth 26 = .ok (.aload_n 0, 1) := by decide +kernel
theorem dX12_changesBoth_27 : decode cX12_changesBoth 27 = .ok (.getfield 79, 3) := by decide +kernel
theorem dX12_changesBoth_30 : decode cX12_changesBoth 30 = .ok (.iload_n 2, 1) := by decide +kernel
theorem dX12_changesBoth_31 : decode cX12_changesBoth 31 = .ok (.iload_n 3, 1) := by decide +kernel
theorem dX12_changesBoth_32 : decode cX12_changesBoth 32 = .ok (.iastore, 1) := by decide +kernel
theorem dX12_changesBoth_33 : decode cX12_changesBoth 33 = .ok (.iinc 2 1, 3) := by decide +kernel
theorem dX12_changesBoth_36 : decode cX12_changesBoth 36 = .ok (.goto (-34), 3) := by decide +kernel
theorem dX12_changesBoth_39 : decode cX12_changesBoth 39 = .ok (.return_, 1) := by decide +kernel
set_option maxRecDepth 20000 in
theorem ggX12_laysQuery_X12_wideOf : GoodIn wsX12_laysQuery wsX12_wideOf := goodIn_r _ [8, 9, 3, 18, 19, 20, 21, 22, 23, 24, 25, 26, 27, 28, 29, 30, 31, 32, 33, 34, 35, 36, 37, 38, 39, 40, 41, 42, 43, 44, 45, 46, 47, 48, 49, 50, 51, 52, 53, 54, 55, 56, 57, 58, 59, 60, 61, 62, 63, 64, 65, 66, 67, 68, 69, 70, 71, 72] (by decide +kernel) (by decide +kernel)
set_option maxRecDepth 20000 in
theorem gX12_laysQuery_X12_wideOf : GoodIn wsX12_laysQuery (wsV RX12 254 RX12 yX12_wideOf wsX12_wideOf) := goodIn_app (goodIn_of _ (by decide +kernel)) ggX12_laysQuery_X12_wideOf
set_option maxRecDepth 20000 in
theorem ggX12_laysQuery_X12_levelsFirst : GoodIn wsX12_laysQuery wsX12_levelsFirst := goodIn_r _ [13, 1, 14, 15, 16, 7, 17, 18, 19, 20, 21, 22, 23, 24, 25, 26, 27, 28, 29, 30, 31, 32, 33, 34, 35, 36, 37, 38, 39, 40, 41, 42, 43, 44, 45, 46, 47, 48, 49, 50, 51, 52, 53, 54, 55, 56, 57, 58, 59, 60, 61, 62, 63, 64, 65, 66, 67, 68, 69, 70, 71, 72] (by decide +kernel) (by decide +kernel)
set_option maxRecDepth 20000 in
theorem gX12_laysQuery_X12_levelsFirst : GoodIn wsX12_laysQuery (wsV RX12 264 RX12 yX12_levelsFirst wsX12_levelsFirst) := goodIn_app (goodIn_of _ (by decide +kernel)) ggX12_laysQuery_X12_levelsFirst
theorem dX12_laysQuery_0 : decode cX12_laysQuery 0 = .ok (.iconst 0, 1) := by decide +kernel
theorem dX12_laysQuery_1 : decode cX12_laysQuery 1 = .ok (.istore_n 2, 1) := by decide +kernel
theorem dX12_laysQuery_2 : decode cX12_laysQuery 2 = .ok (.iload_n 2, 1) := by decide +kernel
theorem dX12_laysQuery_3 : decode cX12_laysQuery 3 = .ok (.aload_n 0, 1) := by decide +kernel
theorem dX12_laysQuery_4 : decode cX12_laysQuery 4 = .ok (.iload_n 1, 1) := by decide +kernel
theorem dX12_laysQuery_5 : decode cX12_laysQuery 5 = .ok (.invokevirtual 254, 3) := by decide +kernel
theorem dX12_laysQuery_8 : decode cX12_laysQuery 8 = .ok (.if_icmp .ge 33, 3) := by decide +kernel
theorem dX12_laysQuery_11 : decode cX12_laysQuery 11 = .ok (.aload_n 0, 1) := by decide +kernel
theorem dX12_laysQuery_12 : decode cX12_laysQuery 12 = .ok (.getfield 76, 3) := by decide +kernel
theorem dX12_laysQuery_15 : decode cX12_laysQuery 15 = .ok (.iload_n 2, 1) := by decide +kernel
theorem dX12_laysQuery_16 : decode cX12_laysQuery 16 = .ok (.aload_n 0, 1) := by decide +kernel
theorem dX12_laysQuery_17 : decode cX12_laysQuery 17 = .ok (.getfield 55, 3) := by decide +kernel
theorem dX12_laysQuery_20 : decode cX12_laysQuery 20 = .ok (.bipush 16, 2) := by decide +kernel
theorem dX12_laysQuery_22 : decode cX12_laysQuery 22 = .ok (.iconst 5, 1) := by decide +kernel
theorem dX12_laysQuery_23 : decode cX12_laysQuery 23 = .ok (.aload_n 0, 1) := by decide +kernel
theorem dX12_laysQuery_24 : decode cX12_laysQuery 24 = .ok (.getfield 197, 3) := by decide +kernel
theorem dX12_laysQuery_27 : decode cX12_laysQuery 27 = .ok (.imul, 1) := by decide +kernel
theorem dX12_laysQuery_28 : decode cX12_laysQuery 28 = .ok (.iload_n 1, 1) := by decide +kernel
theorem dX12_laysQuery_29 : decode cX12_laysQuery 29 = .ok (.iadd, 1) := by decide +kernel
theorem dX12_laysQuery_30 : decode cX12_laysQuery 30 = .ok (.imul, 1) := by decide +kernel
theorem dX12_laysQuery_31 : decode cX12_laysQuery 31 = .ok (.iload_n 2, 1) := by decide +kernel
theorem dX12_laysQuery_32 : decode cX12_laysQuery 32 = .ok (.iadd, 1) := by decide +kernel
theorem dX12_laysQuery_33 : decode cX12_laysQuery 33 = .ok (.iaload, 1) := by decide +kernel
theorem dX12_laysQuery_34 : decode cX12_laysQuery 34 = .ok (.iastore, 1) := by decide +kernel
theorem dX12_laysQuery_35 : decode cX12_laysQuery 35 = .ok (.iinc 2 1, 3) := by decide +kernel
theorem dX12_laysQuery_38 : decode cX12_laysQuery 38 = .ok (.goto (-36), 3) := by decide +kernel
theorem dX12_laysQuery_41 : decode cX12_laysQuery 41 = .ok (.aload_n 0, 1) := by decide +kernel
theorem dX12_laysQuery_42 : decode cX12_laysQuery 42 = .ok (.aload_n 0, 1) := by decide +kernel
theorem dX12_laysQuery_43 : decode cX12_laysQuery 43 = .ok (.iload_n 1, 1) := by decide +kernel
theorem dX12_laysQuery_44 : decode cX12_laysQuery 44 = .ok (.invokevirtual 254, 3) := by decide +kernel
theorem dX12_laysQuery_47 : decode cX12_laysQuery 47 = .ok (.invokevirtual 264, 3) := by decide +kernel
theorem dX12_laysQuery_50 : decode cX12_laysQuery 50 = .ok (.return_, 1) := by decide +kernel
set_option maxRecDepth 20000 in
theorem ggX12_laysWindow_X12_levelsFirst : GoodIn wsX12_laysWindow wsX12_levelsFirst := goodIn_r _ [7, 1, 2, 8, 9, 6, 10, 11, 12, 13, 14, 15, 16, 17, 18, 19, 20, 21, 22, 23, 24, 25, 26, 27, 28, 29, 30, 31, 32, 33, 34, 35, 36, 37, 38, 39, 40, 41, 42, 43, 44, 45, 46, 47, 48, 49, 50, 51, 52, 53, 54, 55, 56, 57, 58, 59, 60, 61, 62, 63, 64, 65] (by decide +kernel) (by decide +kernel)
set_option maxRecDepth 20000 in
theorem gX12_laysWindow_X12_levelsFirst : GoodIn wsX12_laysWindow (wsV RX12 264 RX12 yX12_levelsFirst wsX12_levelsFirst) := goodIn_app (goodIn_of _ (by decide +kernel)) ggX12_laysWindow_X12_levelsFirst
theorem dX12_laysWindow_0 : decode cX12_laysWindow 0 = .ok (.iconst 0, 1) := by decide +kernel
theorem dX12_laysWindow_1 : decode cX12_laysWindow 1 = .ok (.istore_n 3, 1) := by decide +kernel
theorem dX12_laysWindow_2 : decode cX12_laysWindow 2 = .ok (.iload_n 3, 1) := by decide +kernel
theorem dX12_laysWindow_3 : decode cX12_laysWindow 3 = .ok (.iload_n 2, 1) := by decide +kernel
theorem dX12_laysWindow_4 : decode cX12_laysWindow 4 = .ok (.if_icmp .ge 25, 3) := by decide +kernel
theorem dX12_laysWindow_7 : decode cX12_laysWindow 7 = .ok (.aload_n 0, 1) := by decide +kernel
theorem dX12_laysWindow_8 : decode cX12_laysWindow 8 = .ok (.getfield 76, 3) := by decide +kernel
theorem dX12_laysWindow_11 : decode cX12_laysWindow 11 = .ok (.iload_n 3, 1) := by decide +kernel
theorem dX12_laysWindow_12 : decode cX12_laysWindow 12 = .ok (.aload_n 0, 1) := by decide +kernel
theorem dX12_laysWindow_13 : decode cX12_laysWindow 13 = .ok (.getfield 73, 3) := by decide +kernel
theorem dX12_laysWindow_16 : decode cX12_laysWindow 16 = .ok (.iconst 1, 1) := by decide +kernel
theorem dX12_laysWindow_17 : decode cX12_laysWindow 17 = .ok (.iload_n 1, 1) := by decide +kernel
theorem dX12_laysWindow_18 : decode cX12_laysWindow 18 = .ok (.iadd, 1) := by decide +kernel
theorem dX12_laysWindow_19 : decode cX12_laysWindow 19 = .ok (.iload_n 3, 1) := by decide +kernel
theorem dX12_laysWindow_20 : decode cX12_laysWindow 20 = .ok (.iadd, 1) := by decide +kernel
theorem dX12_laysWindow_21 : decode cX12_laysWindow 21 = .ok (.iaload, 1) := by decide +kernel
theorem dX12_laysWindow_22 : decode cX12_laysWindow 22 = .ok (.iastore, 1) := by decide +kernel
theorem dX12_laysWindow_23 : decode cX12_laysWindow 23 = .ok (.iinc 3 1, 3) := by decide +kernel
theorem dX12_laysWindow_26 : decode cX12_laysWindow 26 = .ok (.goto (-24), 3) := by decide +kernel
theorem dX12_laysWindow_29 : decode cX12_laysWindow 29 = .ok (.aload_n 0, 1) := by decide +kernel
theorem dX12_laysWindow_30 : decode cX12_laysWindow 30 = .ok (.iload_n 2, 1) := by decide +kernel
theorem dX12_laysWindow_31 : decode cX12_laysWindow 31 = .ok (.invokevirtual 264, 3) := by decide +kernel
theorem dX12_laysWindow_34 : decode cX12_laysWindow 34 = .ok (.return_, 1) := by decide +kernel
set_option maxRecDepth 20000 in
theorem ggX12_laysBoth_X12_wideOf : GoodIn wsX12_laysBoth wsX12_wideOf := goodIn_r _ [6, 7, 8, 32, 33, 34, 35, 36, 37, 38, 39, 40, 41, 42, 43, 44, 45, 46, 47, 48, 49, 50, 51, 52, 53, 54, 55, 56, 57, 58, 59, 60, 61, 62, 63, 64, 65, 66, 67, 68, 69, 70, 71, 72, 73, 74, 75, 76, 77, 78, 79, 80, 81, 82, 83, 84, 85, 86] (by decide +kernel) (by decide +kernel)
set_option maxRecDepth 20000 in
theorem gX12_laysBoth_X12_wideOf : GoodIn wsX12_laysBoth (wsV RX12 254 RX12 yX12_wideOf wsX12_wideOf) := goodIn_app (goodIn_of _ (by decide +kernel)) ggX12_laysBoth_X12_wideOf
set_option maxRecDepth 20000 in
theorem ggX12_laysBoth_X12_laysWindow : GoodIn wsX12_laysBoth wsX12_laysWindow := goodIn_r _ [12, 13, 14, 15, 16, 17, 5, 18, 19, 20, 21, 32, 33, 34, 35, 36, 37, 38, 39, 40, 41, 42, 43, 44, 45, 46, 47, 48, 49, 50, 51, 52, 53, 54, 55, 56, 57, 58, 59, 60, 61, 62, 63, 64, 65, 66, 67, 68, 69, 70, 71, 72, 73, 74, 75, 76, 77, 78, 79, 80, 81, 82, 83, 84, 85, 86] (by decide +kernel) (by decide +kernel)
set_option maxRecDepth 20000 in
theorem gX12_laysBoth_X12_laysWindow : GoodIn wsX12_laysBoth (wsV RX12 270 RX12 yX12_laysWindow wsX12_laysWindow) := goodIn_app (goodIn_of _ (by decide +kernel)) ggX12_laysBoth_X12_laysWindow
set_option maxRecDepth 20000 in
theorem ggX12_laysBoth_X12_changesBoth : GoodIn wsX12_laysBoth wsX12_changesBoth := goodIn_r _ [25, 13, 26, 32, 33, 34, 35, 36, 37, 38, 39, 40, 41, 42, 43, 44, 45, 46, 47, 48, 49, 50, 51, 52, 53, 54, 55, 56, 57, 58, 59, 60, 61, 62, 63, 64, 65, 66, 67, 68, 69, 70, 71, 72, 73, 74, 75, 76, 77, 78, 79, 80, 81, 82, 83, 84, 85, 86] (by decide +kernel) (by decide +kernel)
set_option maxRecDepth 20000 in
theorem gX12_laysBoth_X12_changesBoth : GoodIn wsX12_laysBoth (wsV RX12 273 RX12 yX12_changesBoth wsX12_changesBoth) := goodIn_app (goodIn_of _ (by decide +kernel)) ggX12_laysBoth_X12_changesBoth
set_option maxRecDepth 20000 in
theorem ggX12_laysBoth_X12_laysQuery : GoodIn wsX12_laysBoth wsX12_laysQuery := goodIn_r _ [30, 13, 31, 8, 2, 3, 4, 5, 6, 7, 15, 16, 17, 18, 14, 19, 20, 21, 32, 33, 34, 35, 36, 37, 38, 39, 40, 41, 42, 43, 44, 45, 46, 47, 48, 49, 50, 51, 52, 53, 54, 55, 56, 57, 58, 59, 60, 61, 62, 63, 64, 65, 66, 67, 68, 69, 70, 71, 72, 73, 74, 75, 76, 77, 78, 79, 80, 81, 82, 83, 84, 85, 86] (by decide +kernel) (by decide +kernel)
set_option maxRecDepth 20000 in
theorem gX12_laysBoth_X12_laysQuery : GoodIn wsX12_laysBoth (wsV RX12 276 RX12 yX12_laysQuery wsX12_laysQuery) := goodIn_app (goodIn_of _ (by decide +kernel)) ggX12_laysBoth_X12_laysQuery
theorem dX12_laysBoth_0 : decode cX12_laysBoth 0 = .ok (.aload_n 0, 1) := by decide +kernel
theorem dX12_laysBoth_1 : decode cX12_laysBoth 1 = .ok (.aload_n 0, 1) := by decide +kernel
theorem dX12_laysBoth_2 : decode cX12_laysBoth 2 = .ok (.iload_n 1, 1) := by decide +kernel
theorem dX12_laysBoth_3 : decode cX12_laysBoth 3 = .ok (.invokevirtual 254, 3) := by decide +kernel
theorem dX12_laysBoth_6 : decode cX12_laysBoth 6 = .ok (.putfield 267, 3) := by decide +kernel
theorem dX12_laysBoth_9 : decode cX12_laysBoth 9 = .ok (.aload_n 0, 1) := by decide +kernel
theorem dX12_laysBoth_10 : decode cX12_laysBoth 10 = .ok (.iload_n 2, 1) := by decide +kernel
theorem dX12_laysBoth_11 : decode cX12_laysBoth 11 = .ok (.aload_n 0, 1) := by decide +kernel
theorem dX12_laysBoth_12 : decode cX12_laysBoth 12 = .ok (.getfield 267, 3) := by decide +kernel
theorem dX12_laysBoth_15 : decode cX12_laysBoth 15 = .ok (.invokevirtual 270, 3) := by decide +kernel
theorem dX12_laysBoth_18 : decode cX12_laysBoth 18 = .ok (.aload_n 0, 1) := by decide +kernel
theorem dX12_laysBoth_19 : decode cX12_laysBoth 19 = .ok (.aload_n 0, 1) := by decide +kernel
theorem dX12_laysBoth_20 : decode cX12_laysBoth 20 = .ok (.getfield 267, 3) := by decide +kernel
theorem dX12_laysBoth_23 : decode cX12_laysBoth 23 = .ok (.invokevirtual 273, 3) := by decide +kernel
theorem dX12_laysBoth_26 : decode cX12_laysBoth 26 = .ok (.aload_n 0, 1) := by decide +kernel
theorem dX12_laysBoth_27 : decode cX12_laysBoth 27 = .ok (.iload_n 1, 1) := by decide +kernel
theorem dX12_laysBoth_28 : decode cX12_laysBoth 28 = .ok (.invokevirtual 276, 3) := by decide +kernel
theorem dX12_laysBoth_31 : decode cX12_laysBoth 31 = .ok (.return_, 1) := by decide +kernel
set_option maxRecDepth 20000 in
theorem ggX12_laysWindows_X12_laysWindow : GoodIn wsX12_laysWindows wsX12_laysWindow := goodIn_r _ [6, 7, 8, 9, 10, 11, 5, 12, 13, 14, 15, 21, 22, 23, 24, 25, 26, 27, 28, 29, 30, 31, 32, 33, 34, 35, 36, 37, 38, 39, 40, 41, 42, 43, 44, 45, 46, 47, 48, 49, 50, 51, 52, 53, 54, 55, 56, 57, 58, 59, 60, 61, 62, 63, 64, 65, 66, 67, 68, 69, 70, 71, 72, 73, 74, 75] (by decide +kernel) (by decide +kernel)
set_option maxRecDepth 20000 in
theorem gX12_laysWindows_X12_laysWindow : GoodIn wsX12_laysWindows (wsV RX12 270 RX12 yX12_laysWindow wsX12_laysWindow) := goodIn_app (goodIn_of _ (by decide +kernel)) ggX12_laysWindows_X12_laysWindow
set_option maxRecDepth 20000 in
theorem ggX12_laysWindows_X12_changesBoth : GoodIn wsX12_laysWindows wsX12_changesBoth := goodIn_r _ [19, 7, 20, 21, 22, 23, 24, 25, 26, 27, 28, 29, 30, 31, 32, 33, 34, 35, 36, 37, 38, 39, 40, 41, 42, 43, 44, 45, 46, 47, 48, 49, 50, 51, 52, 53, 54, 55, 56, 57, 58, 59, 60, 61, 62, 63, 64, 65, 66, 67, 68, 69, 70, 71, 72, 73, 74, 75] (by decide +kernel) (by decide +kernel)
set_option maxRecDepth 20000 in
theorem gX12_laysWindows_X12_changesBoth : GoodIn wsX12_laysWindows (wsV RX12 273 RX12 yX12_changesBoth wsX12_changesBoth) := goodIn_app (goodIn_of _ (by decide +kernel)) ggX12_laysWindows_X12_changesBoth
theorem dX12_laysWindows_0 : decode cX12_laysWindows 0 = .ok (.aload_n 0, 1) := by decide +kernel
theorem dX12_laysWindows_1 : decode cX12_laysWindows 1 = .ok (.iload_n 3, 1) := by decide +kernel
theorem dX12_laysWindows_2 : decode cX12_laysWindows 2 = .ok (.putfield 267, 3) := by decide +kernel
theorem dX12_laysWindows_5 : decode cX12_laysWindows 5 = .ok (.aload_n 0, 1) := by decide +kernel
theorem dX12_laysWindows_6 : decode cX12_laysWindows 6 = .ok (.iload_n 2, 1) := by decide +kernel
theorem dX12_laysWindows_7 : decode cX12_laysWindows 7 = .ok (.iload_n 3, 1) := by decide +kernel
theorem dX12_laysWindows_8 : decode cX12_laysWindows 8 = .ok (.invokevirtual 270, 3) := by decide +kernel
theorem dX12_laysWindows_11 : decode cX12_laysWindows 11 = .ok (.aload_n 0, 1) := by decide +kernel
theorem dX12_laysWindows_12 : decode cX12_laysWindows 12 = .ok (.iload_n 3, 1) := by decide +kernel
theorem dX12_laysWindows_13 : decode cX12_laysWindows 13 = .ok (.invokevirtual 273, 3) := by decide +kernel
theorem dX12_laysWindows_16 : decode cX12_laysWindows 16 = .ok (.aload_n 0, 1) := by decide +kernel
theorem dX12_laysWindows_17 : decode cX12_laysWindows 17 = .ok (.iload_n 1, 1) := by decide +kernel
theorem dX12_laysWindows_18 : decode cX12_laysWindows 18 = .ok (.iload_n 3, 1) := by decide +kernel
theorem dX12_laysWindows_19 : decode cX12_laysWindows 19 = .ok (.invokevirtual 270, 3) := by decide +kernel
theorem dX12_laysWindows_22 : decode cX12_laysWindows 22 = .ok (.return_, 1) := by decide +kernel
theorem dX12_costOf_0 : decode cX12_costOf 0 = .ok (.iload_n 1, 1) := by decide +kernel
theorem dX12_costOf_1 : decode cX12_costOf 1 = .ok (.iload_n 2, 1) := by decide +kernel
theorem dX12_costOf_2 : decode cX12_costOf 2 = .ok (.if_icmp .ge 9, 3) := by decide +kernel
theorem dX12_costOf_5 : decode cX12_costOf 5 = .ok (.iload_n 2, 1) := by decide +kernel
theorem dX12_costOf_6 : decode cX12_costOf 6 = .ok (.iload_n 1, 1) := by decide +kernel
theorem dX12_costOf_7 : decode cX12_costOf 7 = .ok (.isub, 1) := by decide +kernel
theorem dX12_costOf_8 : decode cX12_costOf 8 = .ok (.goto 6, 3) := by decide +kernel
theorem dX12_costOf_11 : decode cX12_costOf 11 = .ok (.iload_n 1, 1) := by decide +kernel
theorem dX12_costOf_12 : decode cX12_costOf 12 = .ok (.iload_n 2, 1) := by decide +kernel
theorem dX12_costOf_13 : decode cX12_costOf 13 = .ok (.isub, 1) := by decide +kernel
theorem dX12_costOf_14 : decode cX12_costOf 14 = .ok (.istore_n 3, 1) := by decide +kernel
theorem dX12_costOf_15 : decode cX12_costOf 15 = .ok (.aload_n 0, 1) := by decide +kernel
theorem dX12_costOf_16 : decode cX12_costOf 16 = .ok (.getfield 73, 3) := by decide +kernel
theorem dX12_costOf_19 : decode cX12_costOf 19 = .ok (.sipush 163, 3) := by decide +kernel
theorem dX12_costOf_22 : decode cX12_costOf 22 = .ok (.iaload, 1) := by decide +kernel
theorem dX12_costOf_23 : decode cX12_costOf 23 = .ok (.ifCond .ne 7, 3) := by decide +kernel
theorem dX12_costOf_26 : decode cX12_costOf 26 = .ok (.iload_n 3, 1) := by decide +kernel
theorem dX12_costOf_27 : decode cX12_costOf 27 = .ok (.goto 6, 3) := by decide +kernel
theorem dX12_costOf_30 : decode cX12_costOf 30 = .ok (.iload_n 3, 1) := by decide +kernel
theorem dX12_costOf_31 : decode cX12_costOf 31 = .ok (.iload_n 3, 1) := by decide +kernel
theorem dX12_costOf_32 : decode cX12_costOf 32 = .ok (.imul, 1) := by decide +kernel
theorem dX12_costOf_33 : decode cX12_costOf 33 = .ok (.ireturn, 1) := by decide +kernel
set_option maxRecDepth 20000 in
theorem ggX12_isBand_X12_in : GoodIn wsX12_isBand wsX12_in := goodIn_r _ [6] (by decide +kernel) (by decide +kernel)
set_option maxRecDepth 20000 in
theorem gX12_isBand_X12_in : GoodIn wsX12_isBand (va_wsS RX12 244 yX12_in wsX12_in) := goodIn_app (goodIn_of _ (by decide +kernel)) ggX12_isBand_X12_in
theorem dX12_isBand_0 : decode cX12_isBand 0 = .ok (.iload_n 2, 1) := by decide +kernel
theorem dX12_isBand_1 : decode cX12_isBand 1 = .ok (.iconst 0, 1) := by decide +kernel
theorem dX12_isBand_2 : decode cX12_isBand 2 = .ok (.aload_n 0, 1) := by decide +kernel
theorem dX12_isBand_3 : decode cX12_isBand 3 = .ok (.getfield 267, 3) := by decide +kernel
theorem dX12_isBand_6 : decode cX12_isBand 6 = .ok (.iconst 1, 1) := by decide +kernel
theorem dX12_isBand_7 : decode cX12_isBand 7 = .ok (.isub, 1) := by decide +kernel
theorem dX12_isBand_8 : decode cX12_isBand 8 = .ok (.invokestatic 244, 3) := by decide +kernel
theorem dX12_isBand_11 : decode cX12_isBand 11 = .ok (.ifCond .eq 33, 3) := by decide +kernel
theorem dX12_isBand_14 : decode cX12_isBand 14 = .ok (.iload_n 1, 1) := by decide +kernel
theorem dX12_isBand_15 : decode cX12_isBand 15 = .ok (.iload_n 2, 1) := by decide +kernel
theorem dX12_isBand_16 : decode cX12_isBand 16 = .ok (.isub, 1) := by decide +kernel
theorem dX12_isBand_17 : decode cX12_isBand 17 = .ok (.aload_n 0, 1) := by decide +kernel
theorem dX12_isBand_18 : decode cX12_isBand 18 = .ok (.getfield 73, 3) := by decide +kernel
theorem dX12_isBand_21 : decode cX12_isBand 21 = .ok (.sipush 161, 3) := by decide +kernel
theorem dX12_isBand_24 : decode cX12_isBand 24 = .ok (.iaload, 1) := by decide +kernel
theorem dX12_isBand_25 : decode cX12_isBand 25 = .ok (.ineg, 1) := by decide +kernel
theorem dX12_isBand_26 : decode cX12_isBand 26 = .ok (.aload_n 0, 1) := by decide +kernel
theorem dX12_isBand_27 : decode cX12_isBand 27 = .ok (.getfield 73, 3) := by decide +kernel
theorem dX12_isBand_30 : decode cX12_isBand 30 = .ok (.sipush 161, 3) := by decide +kernel
theorem dX12_isBand_33 : decode cX12_isBand 33 = .ok (.iaload, 1) := by decide +kernel
theorem dX12_isBand_34 : decode cX12_isBand 34 = .ok (.invokestatic 244, 3) := by decide +kernel
theorem dX12_isBand_37 : decode cX12_isBand 37 = .ok (.ifCond .eq 7, 3) := by decide +kernel
theorem dX12_isBand_40 : decode cX12_isBand 40 = .ok (.iconst 1, 1) := by decide +kernel
theorem dX12_isBand_41 : decode cX12_isBand 41 = .ok (.goto 4, 3) := by decide +kernel
theorem dX12_isBand_44 : decode cX12_isBand 44 = .ok (.iconst 0, 1) := by decide +kernel
theorem dX12_isBand_45 : decode cX12_isBand 45 = .ok (.ireturn, 1) := by decide +kernel
set_option maxRecDepth 20000 in
theorem ggX12_atTable_X12_isBand : GoodIn wsX12_atTable wsX12_isBand := goodIn_r _ [7, 8, 9, 10, 11, 6, 12, 13, 14, 15, 16, 17, 18, 19, 20, 21, 22, 23, 24, 25, 26, 27, 28, 29, 30, 31, 32, 33, 34, 35, 36, 37, 38, 39, 40, 41, 42, 43, 44, 45, 46, 47, 48, 49, 50, 51, 52, 53, 54, 55, 56, 57, 58, 59, 60, 61, 62, 63, 64, 65, 66, 67] (by decide +kernel) (by decide +kernel)
set_option maxRecDepth 20000 in
theorem gX12_atTable_X12_isBand : GoodIn wsX12_atTable (wsV RX12 279 RX12 yX12_isBand wsX12_isBand) := goodIn_app (goodIn_of _ (by decide +kernel)) ggX12_atTable_X12_isBand
theorem dX12_atTable_0 : decode cX12_atTable 0 = .ok (.iload_n 1, 1) := by decide +kernel
theorem dX12_atTable_1 : decode cX12_atTable 1 = .ok (.ifCond .lt 16, 3) := by decide +kernel
theorem dX12_atTable_4 : decode cX12_atTable 4 = .ok (.iload_n 2, 1) := by decide +kernel
theorem dX12_atTable_5 : decode cX12_atTable 5 = .ok (.ifCond .lt 12, 3) := by decide +kernel
theorem dX12_atTable_8 : decode cX12_atTable 8 = .ok (.aload_n 0, 1) := by decide +kernel
theorem dX12_atTable_9 : decode cX12_atTable 9 = .ok (.iload_n 1, 1) := by decide +kernel
theorem dX12_atTable_10 : decode cX12_atTable 10 = .ok (.iload_n 2, 1) := by decide +kernel
theorem dX12_atTable_11 : decode cX12_atTable 11 = .ok (.invokevirtual 279, 3) := by decide +kernel
theorem dX12_atTable_14 : decode cX12_atTable 14 = .ok (.ifCond .ne 9, 3) := by decide +kernel
theorem dX12_atTable_17 : decode cX12_atTable 17 = .ok (.ldc_w 282, 3) := by decide +kernel
theorem dX12_atTable_20 : decode cX12_atTable 20 = .ok (.goto 14, 3) := by decide +kernel
theorem dX12_atTable_23 : decode cX12_atTable 23 = .ok (.aload_n 0, 1) := by decide +kernel
theorem dX12_atTable_24 : decode cX12_atTable 24 = .ok (.getfield 82, 3) := by decide +kernel
theorem dX12_atTable_27 : decode cX12_atTable 27 = .ok (.bipush 16, 2) := by decide +kernel
theorem dX12_atTable_29 : decode cX12_atTable 29 = .ok (.iload_n 1, 1) := by decide +kernel
theorem dX12_atTable_30 : decode cX12_atTable 30 = .ok (.imul, 1) := by decide +kernel
theorem dX12_atTable_31 : decode cX12_atTable 31 = .ok (.iload_n 2, 1) := by decide +kernel
theorem dX12_atTable_32 : decode cX12_atTable 32 = .ok (.iadd, 1) := by decide +kernel
theorem dX12_atTable_33 : decode cX12_atTable 33 = .ok (.iaload, 1) := by decide +kernel
theorem dX12_atTable_34 : decode cX12_atTable 34 = .ok (.ireturn, 1) := by decide +kernel
theorem dX12_least_0 : decode cX12_least 0 = .ok (.iload_n 0, 1) := by decide +kernel
theorem dX12_least_1 : decode cX12_least 1 = .ok (.iload_n 1, 1) := by decide +kernel
theorem dX12_least_2 : decode cX12_least 2 = .ok (.if_icmp .ge 7, 3) := by decide +kernel
theorem dX12_least_5 : decode cX12_least 5 = .ok (.iload_n 0, 1) := by decide +kernel
theorem dX12_least_6 : decode cX12_least 6 = .ok (.goto 4, 3) := by decide +kernel
theorem dX12_least_9 : decode cX12_least 9 = .ok (.iload_n 1, 1) := by decide +kernel
theorem dX12_least_10 : decode cX12_least 10 = .ok (.ireturn, 1) := by decide +kernel
set_option maxRecDepth 20000 in
theorem ggX12_laysRow_X12_isBand : GoodIn wsX12_laysRow wsX12_isBand := goodIn_r _ [11, 2, 12, 13, 14, 10, 15, 27, 28, 29, 30, 31, 32, 33, 34, 35, 36, 37, 38, 39, 40, 41, 42, 43, 44, 45, 46, 47, 48, 49, 50, 51, 52, 53, 54, 55, 56, 57, 58, 59, 60, 61, 62, 63, 64, 65, 66, 67, 68, 69, 70, 71, 72, 73, 74, 75, 76, 77, 78, 79, 80, 81] (by decide +kernel) (by decide +kernel)
set_option maxRecDepth 20000 in
theorem gX12_laysRow_X12_isBand : GoodIn wsX12_laysRow (wsV RX12 279 RX12 yX12_isBand wsX12_isBand) := goodIn_app (goodIn_of _ (by decide +kernel)) ggX12_laysRow_X12_isBand
set_option maxRecDepth 20000 in
theorem ggX12_laysRow_X12_atTable : GoodIn wsX12_laysRow wsX12_atTable := goodIn_r _ [19, 1, 3, 7, 8, 9, 10, 11, 2, 12, 13, 14, 15, 27, 28, 29, 30, 31, 32, 33, 34, 35, 36, 37, 38, 39, 40, 41, 42, 43, 44, 45, 46, 47, 48, 49, 50, 51, 52, 53, 54, 55, 56, 57, 58, 59, 60, 61, 62, 63, 64, 65, 66, 67, 68, 69, 70, 71, 72, 73, 74, 75, 76, 77, 78, 79, 80, 81] (by decide +kernel) (by decide +kernel)
set_option maxRecDepth 20000 in
theorem gX12_laysRow_X12_atTable : GoodIn wsX12_laysRow (wsV RX12 283 RX12 yX12_atTable wsX12_atTable) := goodIn_app (goodIn_of _ (by decide +kernel)) ggX12_laysRow_X12_atTable
set_option maxRecDepth 20000 in
theorem ggX12_laysRow_X12_least : GoodIn wsX12_laysRow wsX12_least := goodIn_r _ [22] (by decide +kernel) (by decide +kernel)
set_option maxRecDepth 20000 in
theorem gX12_laysRow_X12_least : GoodIn wsX12_laysRow (va_wsS RX12 286 yX12_least wsX12_least) := goodIn_app (goodIn_of _ (by decide +kernel)) ggX12_laysRow_X12_least
set_option maxRecDepth 20000 in
theorem ggX12_laysRow_X12_costOf : GoodIn wsX12_laysRow wsX12_costOf := goodIn_r _ [26, 12, 27, 28, 29, 30, 31, 32, 33, 34, 35, 36, 37, 38, 39, 40, 41, 42, 43, 44, 45, 46, 47, 48, 49, 50, 51, 52, 53, 54, 55, 56, 57, 58, 59, 60, 61, 62, 63, 64, 65, 66, 67, 68, 69, 70, 71, 72, 73, 74, 75, 76, 77, 78, 79, 80, 81] (by decide +kernel) (by decide +kernel)
set_option maxRecDepth 20000 in
theorem gX12_laysRow_X12_costOf : GoodIn wsX12_laysRow (wsV RX12 289 RX12 yX12_costOf wsX12_costOf) := goodIn_app (goodIn_of _ (by decide +kernel)) ggX12_laysRow_X12_costOf
theorem dX12_laysRow_0 : decode cX12_laysRow 0 = .ok (.ldc_w 282, 3) := by decide +kernel
theorem dX12_laysRow_3 : decode cX12_laysRow 3 = .ok (.istore_n 2, 1) := by decide +kernel
theorem dX12_laysRow_4 : decode cX12_laysRow 4 = .ok (.iconst 0, 1) := by decide +kernel
theorem dX12_laysRow_5 : decode cX12_laysRow 5 = .ok (.istore_n 3, 1) := by decide +kernel
theorem dX12_laysRow_6 : decode cX12_laysRow 6 = .ok (.iload_n 3, 1) := by decide +kernel
theorem dX12_laysRow_7 : decode cX12_laysRow 7 = .ok (.aload_n 0, 1) := by decide +kernel
theorem dX12_laysRow_8 : decode cX12_laysRow 8 = .ok (.getfield 267, 3) := by decide +kernel
theorem dX12_laysRow_11 : decode cX12_laysRow 11 = .ok (.if_icmp .ge 122, 3) := by decide +kernel
theorem dX12_laysRow_14 : decode cX12_laysRow 14 = .ok (.aload_n 0, 1) := by decide +kernel
theorem dX12_laysRow_15 : decode cX12_laysRow 15 = .ok (.iload_n 1, 1) := by decide +kernel
theorem dX12_laysRow_16 : decode cX12_laysRow 16 = .ok (.iload_n 3, 1) := by decide +kernel
theorem dX12_laysRow_17 : decode cX12_laysRow 17 = .ok (.invokevirtual 279, 3) := by decide +kernel
theorem dX12_laysRow_20 : decode cX12_laysRow 20 = .ok (.ifCond .ne 6, 3) := by decide +kernel
theorem dX12_laysRow_23 : decode cX12_laysRow 23 = .ok (.goto 104, 3) := by decide +kernel
theorem dX12_laysRow_26 : decode cX12_laysRow 26 = .ok (.aload_n 0, 1) := by decide +kernel
theorem dX12_laysRow_27 : decode cX12_laysRow 27 = .ok (.iload_n 1, 1) := by decide +kernel
theorem dX12_laysRow_28 : decode cX12_laysRow 28 = .ok (.iconst 1, 1) := by decide +kernel
theorem dX12_laysRow_29 : decode cX12_laysRow 29 = .ok (.isub, 1) := by decide +kernel
theorem dX12_laysRow_30 : decode cX12_laysRow 30 = .ok (.iload_n 3, 1) := by decide +kernel
theorem dX12_laysRow_31 : decode cX12_laysRow 31 = .ok (.iconst 1, 1) := by decide +kernel
theorem dX12_laysRow_32 : decode cX12_laysRow 32 = .ok (.isub, 1) := by decide +kernel
theorem dX12_laysRow_33 : decode cX12_laysRow 33 = .ok (.invokevirtual 283, 3) := by decide +kernel
theorem dX12_laysRow_36 : decode cX12_laysRow 36 = .ok (.aload_n 0, 1) := by decide +kernel
theorem dX12_laysRow_37 : decode cX12_laysRow 37 = .ok (.iload_n 1, 1) := by decide +kernel
theorem dX12_laysRow_38 : decode cX12_laysRow 38 = .ok (.iconst 1, 1) := by decide +kernel
theorem dX12_laysRow_39 : decode cX12_laysRow 39 = .ok (.isub, 1) := by decide +kernel
theorem dX12_laysRow_40 : decode cX12_laysRow 40 = .ok (.iload_n 3, 1) := by decide +kernel
theorem dX12_laysRow_41 : decode cX12_laysRow 41 = .ok (.invokevirtual 283, 3) := by decide +kernel
theorem dX12_laysRow_44 : decode cX12_laysRow 44 = .ok (.aload_n 0, 1) := by decide +kernel
theorem dX12_laysRow_45 : decode cX12_laysRow 45 = .ok (.iload_n 1, 1) := by decide +kernel
theorem dX12_laysRow_46 : decode cX12_laysRow 46 = .ok (.iload_n 3, 1) := by decide +kernel
theorem dX12_laysRow_47 : decode cX12_laysRow 47 = .ok (.iconst 1, 1) := by decide +kernel
theorem dX12_laysRow_48 : decode cX12_laysRow 48 = .ok (.isub, 1) := by decide +kernel
theorem dX12_laysRow_49 : decode cX12_laysRow 49 = .ok (.invokevirtual 283, 3) := by decide +kernel
theorem dX12_laysRow_52 : decode cX12_laysRow 52 = .ok (.invokestatic 286, 3) := by decide +kernel
theorem dX12_laysRow_55 : decode cX12_laysRow 55 = .ok (.invokestatic 286, 3) := by decide +kernel
theorem dX12_laysRow_58 : decode cX12_laysRow 58 = .ok (.istore 4, 2) := by decide +kernel
theorem dX12_laysRow_60 : decode cX12_laysRow 60 = .ok (.iload_n 1, 1) := by decide +kernel
theorem dX12_laysRow_61 : decode cX12_laysRow 61 = .ok (.ifCond .ne 10, 3) := by decide +kernel
theorem dX12_laysRow_64 : decode cX12_laysRow 64 = .ok (.iload_n 3, 1) := by decide +kernel
theorem dX12_laysRow_65 : decode cX12_laysRow 65 = .ok (.ifCond .ne 6, 3) := by decide +kernel
theorem dX12_laysRow_68 : decode cX12_laysRow 68 = .ok (.iconst 0, 1) := by decide +kernel
theorem dX12_laysRow_69 : decode cX12_laysRow 69 = .ok (.istore 4, 2) := by decide +kernel
theorem dX12_laysRow_71 : decode cX12_laysRow 71 = .ok (.aload_n 0, 1) := by decide +kernel
theorem dX12_laysRow_72 : decode cX12_laysRow 72 = .ok (.getfield 82, 3) := by decide +kernel
theorem dX12_laysRow_75 : decode cX12_laysRow 75 = .ok (.bipush 16, 2) := by decide +kernel
theorem dX12_laysRow_77 : decode cX12_laysRow 77 = .ok (.iload_n 1, 1) := by decide +kernel
theorem dX12_laysRow_78 : decode cX12_laysRow 78 = .ok (.imul, 1) := by decide +kernel
theorem dX12_laysRow_79 : decode cX12_laysRow 79 = .ok (.iload_n 3, 1) := by decide +kernel
theorem dX12_laysRow_80 : decode cX12_laysRow 80 = .ok (.iadd, 1) := by decide +kernel
theorem dX12_laysRow_81 : decode cX12_laysRow 81 = .ok (.iload 4, 2) := by decide +kernel
theorem dX12_laysRow_83 : decode cX12_laysRow 83 = .ok (.aload_n 0, 1) := by decide +kernel
theorem dX12_laysRow_84 : decode cX12_laysRow 84 = .ok (.aload_n 0, 1) := by decide +kernel
theorem dX12_laysRow_85 : decode cX12_laysRow 85 = .ok (.getfield 76, 3) := by decide +kernel
theorem dX12_laysRow_88 : decode cX12_laysRow 88 = .ok (.iload_n 1, 1) := by decide +kernel
theorem dX12_laysRow_89 : decode cX12_laysRow 89 = .ok (.iaload, 1) := by decide +kernel
theorem dX12_laysRow_90 : decode cX12_laysRow 90 = .ok (.aload_n 0, 1) := by decide +kernel
theorem dX12_laysRow_91 : decode cX12_laysRow 91 = .ok (.getfield 79, 3) := by decide +kernel
theorem dX12_laysRow_94 : decode cX12_laysRow 94 = .ok (.iload_n 3, 1) := by decide +kernel
theorem dX12_laysRow_95 : decode cX12_laysRow 95 = .ok (.iaload, 1) := by decide +kernel
theorem dX12_laysRow_96 : decode cX12_laysRow 96 = .ok (.invokevirtual 289, 3) := by decide +kernel
theorem dX12_laysRow_99 : decode cX12_laysRow 99 = .ok (.iadd, 1) := by decide +kernel
theorem dX12_laysRow_100 : decode cX12_laysRow 100 = .ok (.iastore, 1) := by decide +kernel
theorem dX12_laysRow_101 : decode cX12_laysRow 101 = .ok (.iload_n 2, 1) := by decide +kernel
theorem dX12_laysRow_102 : decode cX12_laysRow 102 = .ok (.aload_n 0, 1) := by decide +kernel
theorem dX12_laysRow_103 : decode cX12_laysRow 103 = .ok (.getfield 82, 3) := by decide +kernel
theorem dX12_laysRow_106 : decode cX12_laysRow 106 = .ok (.bipush 16, 2) := by decide +kernel
theorem dX12_laysRow_108 : decode cX12_laysRow 108 = .ok (.iload_n 1, 1) := by decide +kernel
theorem dX12_laysRow_109 : decode cX12_laysRow 109 = .ok (.imul, 1) := by decide +kernel
theorem dX12_laysRow_110 : decode cX12_laysRow 110 = .ok (.iload_n 3, 1) := by decide +kernel
theorem dX12_laysRow_111 : decode cX12_laysRow 111 = .ok (.iadd, 1) := by decide +kernel
theorem dX12_laysRow_112 : decode cX12_laysRow 112 = .ok (.iaload, 1) := by decide +kernel
theorem dX12_laysRow_113 : decode cX12_laysRow 113 = .ok (.invokestatic 286, 3) := by decide +kernel
theorem dX12_laysRow_116 : decode cX12_laysRow 116 = .ok (.istore_n 2, 1) := by decide +kernel
theorem dX12_laysRow_117 : decode cX12_laysRow 117 = .ok (.aload_n 0, 1) := by decide +kernel
theorem dX12_laysRow_118 : decode cX12_laysRow 118 = .ok (.dup, 1) := by decide +kernel
theorem dX12_laysRow_119 : decode cX12_laysRow 119 = .ok (.getfield 292, 3) := by decide +kernel
theorem dX12_laysRow_122 : decode cX12_laysRow 122 = .ok (.iconst 1, 1) := by decide +kernel
theorem dX12_laysRow_123 : decode cX12_laysRow 123 = .ok (.iadd, 1) := by decide +kernel
theorem dX12_laysRow_124 : decode cX12_laysRow 124 = .ok (.putfield 292, 3) := by decide +kernel
theorem dX12_laysRow_127 : decode cX12_laysRow 127 = .ok (.iinc 3 1, 3) := by decide +kernel
theorem dX12_laysRow_130 : decode cX12_laysRow 130 = .ok (.goto (-124), 3) := by decide +kernel
theorem dX12_laysRow_133 : decode cX12_laysRow 133 = .ok (.iload_n 2, 1) := by decide +kernel
theorem dX12_laysRow_134 : decode cX12_laysRow 134 = .ok (.ireturn, 1) := by decide +kernel
set_option maxRecDepth 20000 in
theorem ggX12_laysTable_X12_laysRow : GoodIn wsX12_laysTable wsX12_laysRow := goodIn_r _ [9, 4, 3, 10, 11, 12, 1, 13, 14, 15, 8, 16, 17, 18, 19, 20, 21, 22, 23, 24, 25, 26, 27, 28, 29, 30, 31, 32, 33, 34, 35, 36, 37, 38, 39, 40, 41, 42, 43, 44, 45, 46, 47, 48, 49, 50, 51, 52, 53, 54, 55, 56, 57, 58, 59, 60, 61, 62, 63, 64, 65, 66, 67, 68, 69, 70, 71, 72, 73, 74, 75, 76, 77, 78, 79, 80, 81, 82, 83, 84, 85, 86] (by decide +kernel) (by decide +kernel)
set_option maxRecDepth 20000 in
theorem gX12_laysTable_X12_laysRow : GoodIn wsX12_laysTable (wsV RX12 298 RX12 yX12_laysRow wsX12_laysRow) := goodIn_app (goodIn_of _ (by decide +kernel)) ggX12_laysTable_X12_laysRow
set_option maxRecDepth 20000 in
theorem ggX12_laysTable_X12_atTable : GoodIn wsX12_laysTable wsX12_atTable := goodIn_r _ [24, 4, 10, 13, 14, 15, 8, 16, 3, 17, 18, 19, 20, 32, 33, 34, 35, 36, 37, 38, 39, 40, 41, 42, 43, 44, 45, 46, 47, 48, 49, 50, 51, 52, 53, 54, 55, 56, 57, 58, 59, 60, 61, 62, 63, 64, 65, 66, 67, 68, 69, 70, 71, 72, 73, 74, 75, 76, 77, 78, 79, 80, 81, 82, 83, 84, 85, 86] (by decide +kernel) (by decide +kernel)
set_option maxRecDepth 20000 in
theorem gX12_laysTable_X12_atTable : GoodIn wsX12_laysTable (wsV RX12 283 RX12 yX12_atTable wsX12_atTable) := goodIn_app (goodIn_of _ (by decide +kernel)) ggX12_laysTable_X12_atTable
theorem dX12_laysTable_0 : decode cX12_laysTable 0 = .ok (.aload_n 0, 1) := by decide +kernel
theorem dX12_laysTable_1 : decode cX12_laysTable 1 = .ok (.iconst 0, 1) := by decide +kernel
theorem dX12_laysTable_2 : decode cX12_laysTable 2 = .ok (.putfield 292, 3) := by decide +kernel
theorem dX12_laysTable_5 : decode cX12_laysTable 5 = .ok (.aload_n 0, 1) := by decide +kernel
theorem dX12_laysTable_6 : decode cX12_laysTable 6 = .ok (.iconst (-1), 1) := by decide +kernel
theorem dX12_laysTable_7 : decode cX12_laysTable 7 = .ok (.putfield 295, 3) := by decide +kernel
theorem dX12_laysTable_10 : decode cX12_laysTable 10 = .ok (.iconst 0, 1) := by decide +kernel
theorem dX12_laysTable_11 : decode cX12_laysTable 11 = .ok (.istore_n 2, 1) := by decide +kernel
theorem dX12_laysTable_12 : decode cX12_laysTable 12 = .ok (.iload_n 2, 1) := by decide +kernel
theorem dX12_laysTable_13 : decode cX12_laysTable 13 = .ok (.aload_n 0, 1) := by decide +kernel
theorem dX12_laysTable_14 : decode cX12_laysTable 14 = .ok (.getfield 267, 3) := by decide +kernel
theorem dX12_laysTable_17 : decode cX12_laysTable 17 = .ok (.if_icmp .ge 30, 3) := by decide +kernel
theorem dX12_laysTable_20 : decode cX12_laysTable 20 = .ok (.aload_n 0, 1) := by decide +kernel
theorem dX12_laysTable_21 : decode cX12_laysTable 21 = .ok (.iload_n 2, 1) := by decide +kernel
theorem dX12_laysTable_22 : decode cX12_laysTable 22 = .ok (.invokevirtual 298, 3) := by decide +kernel
theorem dX12_laysTable_25 : decode cX12_laysTable 25 = .ok (.iload_n 1, 1) := by decide +kernel
theorem dX12_laysTable_26 : decode cX12_laysTable 26 = .ok (.if_icmp .ge 6, 3) := by decide +kernel
theorem dX12_laysTable_29 : decode cX12_laysTable 29 = .ok (.goto 12, 3) := by decide +kernel
theorem dX12_laysTable_32 : decode cX12_laysTable 32 = .ok (.aload_n 0, 1) := by decide +kernel
theorem dX12_laysTable_33 : decode cX12_laysTable 33 = .ok (.iload_n 2, 1) := by decide +kernel
theorem dX12_laysTable_34 : decode cX12_laysTable 34 = .ok (.putfield 295, 3) := by decide +kernel
theorem dX12_laysTable_37 : decode cX12_laysTable 37 = .ok (.ldc_w 282, 3) := by decide +kernel
theorem dX12_laysTable_40 : decode cX12_laysTable 40 = .ok (.ireturn, 1) := by decide +kernel
theorem dX12_laysTable_41 : decode cX12_laysTable 41 = .ok (.iinc 2 1, 3) := by decide +kernel
theorem dX12_laysTable_44 : decode cX12_laysTable 44 = .ok (.goto (-32), 3) := by decide +kernel
theorem dX12_laysTable_47 : decode cX12_laysTable 47 = .ok (.aload_n 0, 1) := by decide +kernel
theorem dX12_laysTable_48 : decode cX12_laysTable 48 = .ok (.aload_n 0, 1) := by decide +kernel
theorem dX12_laysTable_49 : decode cX12_laysTable 49 = .ok (.getfield 267, 3) := by decide +kernel
theorem dX12_laysTable_52 : decode cX12_laysTable 52 = .ok (.iconst 1, 1) := by decide +kernel
theorem dX12_laysTable_53 : decode cX12_laysTable 53 = .ok (.isub, 1) := by decide +kernel
theorem dX12_laysTable_54 : decode cX12_laysTable 54 = .ok (.aload_n 0, 1) := by decide +kernel
theorem dX12_laysTable_55 : decode cX12_laysTable 55 = .ok (.getfield 267, 3) := by decide +kernel
theorem dX12_laysTable_58 : decode cX12_laysTable 58 = .ok (.iconst 1, 1) := by decide +kernel
theorem dX12_laysTable_59 : decode cX12_laysTable 59 = .ok (.isub, 1) := by decide +kernel
theorem dX12_laysTable_60 : decode cX12_laysTable 60 = .ok (.invokevirtual 283, 3) := by decide +kernel
theorem dX12_laysTable_63 : decode cX12_laysTable 63 = .ok (.ireturn, 1) := by decide +kernel
set_option maxRecDepth 20000 in
theorem ggX12_distanceOf_X12_laysBoth : GoodIn wsX12_distanceOf wsX12_laysBoth := goodIn_r _ [6, 7, 8, 9, 10, 5, 11, 12, 13, 14, 15, 16, 17, 18, 19, 20, 21, 22, 23, 24, 25, 26, 27, 28, 29, 30, 31, 32, 33, 34, 35, 36, 66, 67, 68, 69, 70, 71, 72, 73, 74, 75, 76, 77, 78, 79, 80, 81, 82, 83, 84, 85, 86, 87, 88, 89, 90, 91, 92, 93, 94, 95, 96, 97, 98, 99, 100, 101, 102, 103, 104, 105, 106, 107, 108, 109, 110, 111, 112, 113, 114, 115, 116, 117, 118, 119, 120] (by decide +kernel) (by decide +kernel)
set_option maxRecDepth 20000 in
theorem gX12_distanceOf_X12_laysBoth : GoodIn wsX12_distanceOf (wsV RX12 301 RX12 yX12_laysBoth wsX12_laysBoth) := goodIn_app (goodIn_of _ (by decide +kernel)) ggX12_distanceOf_X12_laysBoth
set_option maxRecDepth 20000 in
theorem ggX12_distanceOf_X12_laysTable : GoodIn wsX12_distanceOf wsX12_laysTable := goodIn_r _ [40, 41, 42, 7, 1, 43, 44, 45, 5, 46, 47, 18, 31, 48, 49, 50, 51, 19, 52, 53, 54, 55, 56, 57, 58, 59, 60, 61, 62, 63, 64, 65, 66, 67, 68, 69, 70, 71, 72, 73, 74, 75, 76, 77, 78, 79, 80, 81, 82, 83, 84, 85, 86, 87, 88, 89, 90, 91, 92, 93, 94, 95, 96, 97, 98, 99, 100, 101, 102, 103, 104, 105, 106, 107, 108, 109, 110, 111, 112, 113, 114, 115, 116, 117, 118, 119, 120] (by decide +kernel) (by decide +kernel)
set_option maxRecDepth 20000 in
theorem gX12_distanceOf_X12_laysTable : GoodIn wsX12_distanceOf (wsV RX12 304 RX12 yX12_laysTable wsX12_laysTable) := goodIn_app (goodIn_of _ (by decide +kernel)) ggX12_distanceOf_X12_laysTable
theorem dX12_distanceOf_0 : decode cX12_distanceOf 0 = .ok (.aload_n 0, 1) := by decide +kernel
theorem dX12_distanceOf_1 : decode cX12_distanceOf 1 = .ok (.iload_n 1, 1) := by decide +kernel
theorem dX12_distanceOf_2 : decode cX12_distanceOf 2 = .ok (.iload_n 2, 1) := by decide +kernel
theorem dX12_distanceOf_3 : decode cX12_distanceOf 3 = .ok (.invokevirtual 301, 3) := by decide +kernel
theorem dX12_distanceOf_6 : decode cX12_distanceOf 6 = .ok (.aload_n 0, 1) := by decide +kernel
theorem dX12_distanceOf_7 : decode cX12_distanceOf 7 = .ok (.ldc_w 282, 3) := by decide +kernel
theorem dX12_distanceOf_10 : decode cX12_distanceOf 10 = .ok (.invokevirtual 304, 3) := by decide +kernel
theorem dX12_distanceOf_13 : decode cX12_distanceOf 13 = .ok (.ireturn, 1) := by decide +kernel
set_option maxRecDepth 20000 in
theorem ggX12_endsOf_X12_costOf : GoodIn wsX12_endsOf wsX12_costOf := goodIn_r _ [8, 9, 10, 11, 12, 13, 14, 15, 16, 17, 18, 19, 20, 21, 22, 23, 24, 25, 26, 27, 28, 29, 30, 31, 32, 33, 34, 35, 36, 37, 38, 39, 40, 41, 42, 43, 44, 45, 46, 47, 48, 49, 50, 51, 52, 53, 54, 55, 56, 57, 58, 59, 60, 61, 62, 63, 64] (by decide +kernel) (by decide +kernel)
set_option maxRecDepth 20000 in
theorem gX12_endsOf_X12_costOf : GoodIn wsX12_endsOf (wsV RX12 289 RX12 yX12_costOf wsX12_costOf) := goodIn_app (goodIn_of _ (by decide +kernel)) ggX12_endsOf_X12_costOf
theorem dX12_endsOf_0 : decode cX12_endsOf 0 = .ok (.aload_n 0, 1) := by decide +kernel
theorem dX12_endsOf_1 : decode cX12_endsOf 1 = .ok (.aload_n 0, 1) := by decide +kernel
theorem dX12_endsOf_2 : decode cX12_endsOf 2 = .ok (.getfield 76, 3) := by decide +kernel
theorem dX12_endsOf_5 : decode cX12_endsOf 5 = .ok (.iconst 0, 1) := by decide +kernel
theorem dX12_endsOf_6 : decode cX12_endsOf 6 = .ok (.iaload, 1) := by decide +kernel
theorem dX12_endsOf_7 : decode cX12_endsOf 7 = .ok (.aload_n 0, 1) := by decide +kernel
theorem dX12_endsOf_8 : decode cX12_endsOf 8 = .ok (.getfield 79, 3) := by decide +kernel
theorem dX12_endsOf_11 : decode cX12_endsOf 11 = .ok (.iconst 0, 1) := by decide +kernel
theorem dX12_endsOf_12 : decode cX12_endsOf 12 = .ok (.iaload, 1) := by decide +kernel
theorem dX12_endsOf_13 : decode cX12_endsOf 13 = .ok (.invokevirtual 289, 3) := by decide +kernel
theorem dX12_endsOf_16 : decode cX12_endsOf 16 = .ok (.aload_n 0, 1) := by decide +kernel
theorem dX12_endsOf_17 : decode cX12_endsOf 17 = .ok (.aload_n 0, 1) := by decide +kernel
theorem dX12_endsOf_18 : decode cX12_endsOf 18 = .ok (.getfield 76, 3) := by decide +kernel
theorem dX12_endsOf_21 : decode cX12_endsOf 21 = .ok (.aload_n 0, 1) := by decide +kernel
theorem dX12_endsOf_22 : decode cX12_endsOf 22 = .ok (.getfield 267, 3) := by decide +kernel
theorem dX12_endsOf_25 : decode cX12_endsOf 25 = .ok (.iconst 1, 1) := by decide +kernel
theorem dX12_endsOf_26 : decode cX12_endsOf 26 = .ok (.isub, 1) := by decide +kernel
theorem dX12_endsOf_27 : decode cX12_endsOf 27 = .ok (.iaload, 1) := by decide +kernel
theorem dX12_endsOf_28 : decode cX12_endsOf 28 = .ok (.aload_n 0, 1) := by decide +kernel
theorem dX12_endsOf_29 : decode cX12_endsOf 29 = .ok (.getfield 79, 3) := by decide +kernel
theorem dX12_endsOf_32 : decode cX12_endsOf 32 = .ok (.aload_n 0, 1) := by decide +kernel
theorem dX12_endsOf_33 : decode cX12_endsOf 33 = .ok (.getfield 267, 3) := by decide +kernel
theorem dX12_endsOf_36 : decode cX12_endsOf 36 = .ok (.iconst 1, 1) := by decide +kernel
theorem dX12_endsOf_37 : decode cX12_endsOf 37 = .ok (.isub, 1) := by decide +kernel
theorem dX12_endsOf_38 : decode cX12_endsOf 38 = .ok (.iaload, 1) := by decide +kernel
theorem dX12_endsOf_39 : decode cX12_endsOf 39 = .ok (.invokevirtual 289, 3) := by decide +kernel
theorem dX12_endsOf_42 : decode cX12_endsOf 42 = .ok (.iadd, 1) := by decide +kernel
theorem dX12_endsOf_43 : decode cX12_endsOf 43 = .ok (.ireturn, 1) := by decide +kernel
set_option maxRecDepth 20000 in
theorem ggX12_overOf_X12_isBand : GoodIn wsX12_overOf wsX12_isBand := goodIn_r _ [10, 1, 11, 12, 13, 9, 14, 19, 20, 21, 22, 23, 24, 25, 26, 27, 28, 29, 30, 31, 32, 33, 34, 35, 36, 37, 38, 39, 40, 41, 42, 43, 44, 45, 46, 47, 48, 49, 50, 51, 52, 53, 54, 55, 56, 57, 58, 59, 60, 61, 62, 63, 64, 65, 66, 67, 68, 69, 70, 71, 72, 73] (by decide +kernel) (by decide +kernel)
set_option maxRecDepth 20000 in
theorem gX12_overOf_X12_isBand : GoodIn wsX12_overOf (wsV RX12 279 RX12 yX12_isBand wsX12_isBand) := goodIn_app (goodIn_of _ (by decide +kernel)) ggX12_overOf_X12_isBand
set_option maxRecDepth 20000 in
theorem ggX12_overOf_X12_costOf : GoodIn wsX12_overOf wsX12_costOf := goodIn_r _ [18, 11, 19, 20, 21, 22, 23, 24, 25, 26, 27, 28, 29, 30, 31, 32, 33, 34, 35, 36, 37, 38, 39, 40, 41, 42, 43, 44, 45, 46, 47, 48, 49, 50, 51, 52, 53, 54, 55, 56, 57, 58, 59, 60, 61, 62, 63, 64, 65, 66, 67, 68, 69, 70, 71, 72, 73] (by decide +kernel) (by decide +kernel)
set_option maxRecDepth 20000 in
theorem gX12_overOf_X12_costOf : GoodIn wsX12_overOf (wsV RX12 289 RX12 yX12_costOf wsX12_costOf) := goodIn_app (goodIn_of _ (by decide +kernel)) ggX12_overOf_X12_costOf
theorem dX12_overOf_0 : decode cX12_overOf 0 = .ok (.iconst 0, 1) := by decide +kernel
theorem dX12_overOf_1 : decode cX12_overOf 1 = .ok (.istore_n 1, 1) := by decide +kernel
theorem dX12_overOf_2 : decode cX12_overOf 2 = .ok (.iconst 0, 1) := by decide +kernel
theorem dX12_overOf_3 : decode cX12_overOf 3 = .ok (.istore_n 2, 1) := by decide +kernel
theorem dX12_overOf_4 : decode cX12_overOf 4 = .ok (.iload_n 2, 1) := by decide +kernel
theorem dX12_overOf_5 : decode cX12_overOf 5 = .ok (.aload_n 0, 1) := by decide +kernel
theorem dX12_overOf_6 : decode cX12_overOf 6 = .ok (.getfield 267, 3) := by decide +kernel
theorem dX12_overOf_9 : decode cX12_overOf 9 = .ok (.if_icmp .ge 139, 3) := by decide +kernel
theorem dX12_overOf_12 : decode cX12_overOf 12 = .ok (.ldc_w 307, 3) := by decide +kernel
theorem dX12_overOf_15 : decode cX12_overOf 15 = .ok (.istore_n 3, 1) := by decide +kernel
theorem dX12_overOf_16 : decode cX12_overOf 16 = .ok (.ldc_w 282, 3) := by decide +kernel
theorem dX12_overOf_19 : decode cX12_overOf 19 = .ok (.istore 4, 2) := by decide +kernel
theorem dX12_overOf_21 : decode cX12_overOf 21 = .ok (.iconst 0, 1) := by decide +kernel
theorem dX12_overOf_22 : decode cX12_overOf 22 = .ok (.istore 5, 2) := by decide +kernel
theorem dX12_overOf_24 : decode cX12_overOf 24 = .ok (.iload 5, 2) := by decide +kernel
theorem dX12_overOf_26 : decode cX12_overOf 26 = .ok (.aload_n 0, 1) := by decide +kernel
theorem dX12_overOf_27 : decode cX12_overOf 27 = .ok (.getfield 267, 3) := by decide +kernel
theorem dX12_overOf_30 : decode cX12_overOf 30 = .ok (.if_icmp .ge 62, 3) := by decide +kernel
theorem dX12_overOf_33 : decode cX12_overOf 33 = .ok (.aload_n 0, 1) := by decide +kernel
theorem dX12_overOf_34 : decode cX12_overOf 34 = .ok (.iload 5, 2) := by decide +kernel
theorem dX12_overOf_36 : decode cX12_overOf 36 = .ok (.iload_n 2, 1) := by decide +kernel
theorem dX12_overOf_37 : decode cX12_overOf 37 = .ok (.invokevirtual 279, 3) := by decide +kernel
theorem dX12_overOf_40 : decode cX12_overOf 40 = .ok (.ifCond .ne 6, 3) := by decide +kernel
theorem dX12_overOf_43 : decode cX12_overOf 43 = .ok (.goto 43, 3) := by decide +kernel
theorem dX12_overOf_46 : decode cX12_overOf 46 = .ok (.aload_n 0, 1) := by decide +kernel
theorem dX12_overOf_47 : decode cX12_overOf 47 = .ok (.getfield 76, 3) := by decide +kernel
theorem dX12_overOf_50 : decode cX12_overOf 50 = .ok (.iload 5, 2) := by decide +kernel
theorem dX12_overOf_52 : decode cX12_overOf 52 = .ok (.iaload, 1) := by decide +kernel
theorem dX12_overOf_53 : decode cX12_overOf 53 = .ok (.iload_n 3, 1) := by decide +kernel
theorem dX12_overOf_54 : decode cX12_overOf 54 = .ok (.if_icmp .le 11, 3) := by decide +kernel
theorem dX12_overOf_57 : decode cX12_overOf 57 = .ok (.aload_n 0, 1) := by decide +kernel
theorem dX12_overOf_58 : decode cX12_overOf 58 = .ok (.getfield 76, 3) := by decide +kernel
theorem dX12_overOf_61 : decode cX12_overOf 61 = .ok (.iload 5, 2) := by decide +kernel
theorem dX12_overOf_63 : decode cX12_overOf 63 = .ok (.iaload, 1) := by decide +kernel
theorem dX12_overOf_64 : decode cX12_overOf 64 = .ok (.istore_n 3, 1) := by decide +kernel
theorem dX12_overOf_65 : decode cX12_overOf 65 = .ok (.aload_n 0, 1) := by decide +kernel
theorem dX12_overOf_66 : decode cX12_overOf 66 = .ok (.getfield 76, 3) := by decide +kernel
theorem dX12_overOf_69 : decode cX12_overOf 69 = .ok (.iload 5, 2) := by decide +kernel
theorem dX12_overOf_71 : decode cX12_overOf 71 = .ok (.iaload, 1) := by decide +kernel
theorem dX12_overOf_72 : decode cX12_overOf 72 = .ok (.iload 4, 2) := by decide +kernel
theorem dX12_overOf_74 : decode cX12_overOf 74 = .ok (.if_icmp .ge 12, 3) := by decide +kernel
theorem dX12_overOf_77 : decode cX12_overOf 77 = .ok (.aload_n 0, 1) := by decide +kernel
theorem dX12_overOf_78 : decode cX12_overOf 78 = .ok (.getfield 76, 3) := by decide +kernel
theorem dX12_overOf_81 : decode cX12_overOf 81 = .ok (.iload 5, 2) := by decide +kernel
theorem dX12_overOf_83 : decode cX12_overOf 83 = .ok (.iaload, 1) := by decide +kernel
theorem dX12_overOf_84 : decode cX12_overOf 84 = .ok (.istore 4, 2) := by decide +kernel
theorem dX12_overOf_86 : decode cX12_overOf 86 = .ok (.iinc 5 1, 3) := by decide +kernel
theorem dX12_overOf_89 : decode cX12_overOf 89 = .ok (.goto (-65), 3) := by decide +kernel
theorem dX12_overOf_92 : decode cX12_overOf 92 = .ok (.aload_n 0, 1) := by decide +kernel
theorem dX12_overOf_93 : decode cX12_overOf 93 = .ok (.getfield 79, 3) := by decide +kernel
theorem dX12_overOf_96 : decode cX12_overOf 96 = .ok (.iload_n 2, 1) := by decide +kernel
theorem dX12_overOf_97 : decode cX12_overOf 97 = .ok (.iaload, 1) := by decide +kernel
theorem dX12_overOf_98 : decode cX12_overOf 98 = .ok (.iload_n 3, 1) := by decide +kernel
theorem dX12_overOf_99 : decode cX12_overOf 99 = .ok (.if_icmp .le 17, 3) := by decide +kernel
theorem dX12_overOf_102 : decode cX12_overOf 102 = .ok (.iload_n 1, 1) := by decide +kernel
theorem dX12_overOf_103 : decode cX12_overOf 103 = .ok (.aload_n 0, 1) := by decide +kernel
theorem dX12_overOf_104 : decode cX12_overOf 104 = .ok (.aload_n 0, 1) := by decide +kernel
theorem dX12_overOf_105 : decode cX12_overOf 105 = .ok (.getfield 79, 3) := by decide +kernel
theorem dX12_overOf_108 : decode cX12_overOf 108 = .ok (.iload_n 2, 1) := by decide +kernel
theorem dX12_overOf_109 : decode cX12_overOf 109 = .ok (.iaload, 1) := by decide +kernel
theorem dX12_overOf_110 : decode cX12_overOf 110 = .ok (.iload_n 3, 1) := by decide +kernel
theorem dX12_overOf_111 : decode cX12_overOf 111 = .ok (.invokevirtual 289, 3) := by decide +kernel
theorem dX12_overOf_114 : decode cX12_overOf 114 = .ok (.iadd, 1) := by decide +kernel
theorem dX12_overOf_115 : decode cX12_overOf 115 = .ok (.istore_n 1, 1) := by decide +kernel
theorem dX12_overOf_116 : decode cX12_overOf 116 = .ok (.aload_n 0, 1) := by decide +kernel
theorem dX12_overOf_117 : decode cX12_overOf 117 = .ok (.getfield 79, 3) := by decide +kernel
theorem dX12_overOf_120 : decode cX12_overOf 120 = .ok (.iload_n 2, 1) := by decide +kernel
theorem dX12_overOf_121 : decode cX12_overOf 121 = .ok (.iaload, 1) := by decide +kernel
theorem dX12_overOf_122 : decode cX12_overOf 122 = .ok (.iload 4, 2) := by decide +kernel
theorem dX12_overOf_124 : decode cX12_overOf 124 = .ok (.if_icmp .ge 18, 3) := by decide +kernel
theorem dX12_overOf_127 : decode cX12_overOf 127 = .ok (.iload_n 1, 1) := by decide +kernel
theorem dX12_overOf_128 : decode cX12_overOf 128 = .ok (.aload_n 0, 1) := by decide +kernel
theorem dX12_overOf_129 : decode cX12_overOf 129 = .ok (.aload_n 0, 1) := by decide +kernel
theorem dX12_overOf_130 : decode cX12_overOf 130 = .ok (.getfield 79, 3) := by decide +kernel
theorem dX12_overOf_133 : decode cX12_overOf 133 = .ok (.iload_n 2, 1) := by decide +kernel
theorem dX12_overOf_134 : decode cX12_overOf 134 = .ok (.iaload, 1) := by decide +kernel
theorem dX12_overOf_135 : decode cX12_overOf 135 = .ok (.iload 4, 2) := by decide +kernel
theorem dX12_overOf_137 : decode cX12_overOf 137 = .ok (.invokevirtual 289, 3) := by decide +kernel
theorem dX12_overOf_140 : decode cX12_overOf 140 = .ok (.iadd, 1) := by decide +kernel
theorem dX12_overOf_141 : decode cX12_overOf 141 = .ok (.istore_n 1, 1) := by decide +kernel
theorem dX12_overOf_142 : decode cX12_overOf 142 = .ok (.iinc 2 1, 3) := by decide +kernel
theorem dX12_overOf_145 : decode cX12_overOf 145 = .ok (.goto (-141), 3) := by decide +kernel
theorem dX12_overOf_148 : decode cX12_overOf 148 = .ok (.iload_n 1, 1) := by decide +kernel
theorem dX12_overOf_149 : decode cX12_overOf 149 = .ok (.ireturn, 1) := by decide +kernel
set_option maxRecDepth 20000 in
theorem ggX12_backOf_X12_changesBoth : GoodIn wsX12_backOf wsX12_changesBoth := goodIn_r _ [6, 7, 8, 27, 28, 29, 30, 31, 32, 33, 34, 35, 36, 37, 38, 39, 40, 41, 42, 43, 44, 45, 46, 47, 48, 49, 50, 51, 52, 53, 54, 55, 56, 57, 58, 59, 60, 61, 62, 63, 64, 65, 66, 67, 68, 69, 70, 71, 72, 73, 74, 75, 76, 77, 78, 79, 80, 81] (by decide +kernel) (by decide +kernel)
set_option maxRecDepth 20000 in
theorem gX12_backOf_X12_changesBoth : GoodIn wsX12_backOf (wsV RX12 273 RX12 yX12_changesBoth wsX12_changesBoth) := goodIn_app (goodIn_of _ (by decide +kernel)) ggX12_backOf_X12_changesBoth
set_option maxRecDepth 20000 in
theorem ggX12_backOf_X12_overOf : GoodIn wsX12_backOf wsX12_overOf := goodIn_r _ [12, 1, 13, 14, 7, 8, 15, 16, 17, 5, 18, 19, 20, 21, 22, 23, 24, 25, 26, 27, 28, 29, 30, 31, 32, 33, 34, 35, 36, 37, 38, 39, 40, 41, 42, 43, 44, 45, 46, 47, 48, 49, 50, 51, 52, 53, 54, 55, 56, 57, 58, 59, 60, 61, 62, 63, 64, 65, 66, 67, 68, 69, 70, 71, 72, 73, 74, 75, 76, 77, 78, 79, 80, 81] (by decide +kernel) (by decide +kernel)
set_option maxRecDepth 20000 in
theorem gX12_backOf_X12_overOf : GoodIn wsX12_backOf (wsV RX12 308 RX12 yX12_overOf wsX12_overOf) := goodIn_app (goodIn_of _ (by decide +kernel)) ggX12_backOf_X12_overOf
theorem dX12_backOf_0 : decode cX12_backOf 0 = .ok (.aload_n 0, 1) := by decide +kernel
theorem dX12_backOf_1 : decode cX12_backOf 1 = .ok (.aload_n 0, 1) := by decide +kernel
theorem dX12_backOf_2 : decode cX12_backOf 2 = .ok (.getfield 267, 3) := by decide +kernel
theorem dX12_backOf_5 : decode cX12_backOf 5 = .ok (.invokevirtual 273, 3) := by decide +kernel
theorem dX12_backOf_8 : decode cX12_backOf 8 = .ok (.aload_n 0, 1) := by decide +kernel
theorem dX12_backOf_9 : decode cX12_backOf 9 = .ok (.invokevirtual 308, 3) := by decide +kernel
theorem dX12_backOf_12 : decode cX12_backOf 12 = .ok (.istore_n 1, 1) := by decide +kernel
theorem dX12_backOf_13 : decode cX12_backOf 13 = .ok (.aload_n 0, 1) := by decide +kernel
theorem dX12_backOf_14 : decode cX12_backOf 14 = .ok (.aload_n 0, 1) := by decide +kernel
theorem dX12_backOf_15 : decode cX12_backOf 15 = .ok (.getfield 267, 3) := by decide +kernel
theorem dX12_backOf_18 : decode cX12_backOf 18 = .ok (.invokevirtual 273, 3) := by decide +kernel
theorem dX12_backOf_21 : decode cX12_backOf 21 = .ok (.iload_n 1, 1) := by decide +kernel
theorem dX12_backOf_22 : decode cX12_backOf 22 = .ok (.ireturn, 1) := by decide +kernel
set_option maxRecDepth 20000 in
theorem ggX12_passes_X12_laysBoth : GoodIn wsX12_passes wsX12_laysBoth := goodIn_r _ [9, 10, 11, 12, 13, 8, 14, 15, 16, 17, 18, 19, 20, 21, 22, 23, 24, 25, 26, 27, 28, 29, 30, 31, 32, 33, 34, 35, 36, 37, 38, 39, 80, 81, 82, 83, 84, 85, 86, 87, 88, 89, 90, 91, 92, 93, 94, 95, 96, 97, 98, 99, 100, 101, 102, 103, 104, 105, 106, 107, 108, 109, 110, 111, 112, 113, 114, 115, 116, 117, 118, 119, 120, 121, 122, 123, 124, 125, 126, 127, 128, 129, 130, 131, 132, 133, 134] (by decide +kernel) (by decide +kernel)
set_option maxRecDepth 20000 in
theorem gX12_passes_X12_laysBoth : GoodIn wsX12_passes (wsV RX12 301 RX12 yX12_laysBoth wsX12_laysBoth) := goodIn_app (goodIn_of _ (by decide +kernel)) ggX12_passes_X12_laysBoth
set_option maxRecDepth 20000 in
theorem ggX12_passes_X12_endsOf : GoodIn wsX12_passes wsX12_endsOf := goodIn_r _ [43, 21, 34, 10, 44, 45, 46, 8, 47, 22, 80, 81, 82, 83, 84, 85, 86, 87, 88, 89, 90, 91, 92, 93, 94, 95, 96, 97, 98, 99, 100, 101, 102, 103, 104, 105, 106, 107, 108, 109, 110, 111, 112, 113, 114, 115, 116, 117, 118, 119, 120, 121, 122, 123, 124, 125, 126, 127, 128, 129, 130, 131, 132, 133, 134] (by decide +kernel) (by decide +kernel)
set_option maxRecDepth 20000 in
theorem gX12_passes_X12_endsOf : GoodIn wsX12_passes (wsV RX12 314 RX12 yX12_endsOf wsX12_endsOf) := goodIn_app (goodIn_of _ (by decide +kernel)) ggX12_passes_X12_endsOf
set_option maxRecDepth 20000 in
theorem ggX12_passes_X12_overOf : GoodIn wsX12_passes wsX12_overOf := goodIn_r _ [51, 10, 52, 3, 21, 34, 53, 54, 55, 8, 56, 22, 57, 58, 59, 44, 45, 46, 47, 80, 81, 82, 83, 84, 85, 86, 87, 88, 89, 90, 91, 92, 93, 94, 95, 96, 97, 98, 99, 100, 101, 102, 103, 104, 105, 106, 107, 108, 109, 110, 111, 112, 113, 114, 115, 116, 117, 118, 119, 120, 121, 122, 123, 124, 125, 126, 127, 128, 129, 130, 131, 132, 133, 134] (by decide +kernel) (by decide +kernel)
set_option maxRecDepth 20000 in
theorem gX12_passes_X12_overOf : GoodIn wsX12_passes (wsV RX12 308 RX12 yX12_overOf wsX12_overOf) := goodIn_app (goodIn_of _ (by decide +kernel)) ggX12_passes_X12_overOf
set_option maxRecDepth 20000 in
theorem ggX12_passes_X12_backOf : GoodIn wsX12_passes wsX12_backOf := goodIn_r _ [63, 10, 30, 31, 32, 8, 33, 21, 34, 48, 49, 50, 51, 52, 3, 53, 54, 55, 56, 22, 57, 58, 59, 44, 45, 46, 47, 80, 81, 82, 83, 84, 85, 86, 87, 88, 89, 90, 91, 92, 93, 94, 95, 96, 97, 98, 99, 100, 101, 102, 103, 104, 105, 106, 107, 108, 109, 110, 111, 112, 113, 114, 115, 116, 117, 118, 119, 120, 121, 122, 123, 124, 125, 126, 127, 128, 129, 130, 131, 132, 133, 134] (by decide +kernel) (by decide +kernel)
set_option maxRecDepth 20000 in
theorem gX12_passes_X12_backOf : GoodIn wsX12_passes (wsV RX12 317 RX12 yX12_backOf wsX12_backOf) := goodIn_app (goodIn_of _ (by decide +kernel)) ggX12_passes_X12_backOf
set_option maxRecDepth 20000 in
theorem ggX12_passes_X12_laysTable : GoodIn wsX12_passes wsX12_laysTable := goodIn_r _ [67, 1, 2, 10, 3, 68, 69, 70, 8, 71, 72, 21, 34, 53, 54, 55, 56, 22, 57, 58, 59, 73, 74, 75, 76, 77, 78, 79, 44, 45, 46, 47, 80, 81, 82, 83, 84, 85, 86, 87, 88, 89, 90, 91, 92, 93, 94, 95, 96, 97, 98, 99, 100, 101, 102, 103, 104, 105, 106, 107, 108, 109, 110, 111, 112, 113, 114, 115, 116, 117, 118, 119, 120, 121, 122, 123, 124, 125, 126, 127, 128, 129, 130, 131, 132, 133, 134] (by decide +kernel) (by decide +kernel)
set_option maxRecDepth 20000 in
theorem gX12_passes_X12_laysTable : GoodIn wsX12_passes (wsV RX12 304 RX12 yX12_laysTable wsX12_laysTable) := goodIn_app (goodIn_of _ (by decide +kernel)) ggX12_passes_X12_laysTable
theorem dX12_passes_0 : decode cX12_passes 0 = .ok (.aload_n 0, 1) := by decide +kernel
theorem dX12_passes_1 : decode cX12_passes 1 = .ok (.iload_n 1, 1) := by decide +kernel
theorem dX12_passes_2 : decode cX12_passes 2 = .ok (.iload_n 2, 1) := by decide +kernel
theorem dX12_passes_3 : decode cX12_passes 3 = .ok (.invokevirtual 301, 3) := by decide +kernel
theorem dX12_passes_6 : decode cX12_passes 6 = .ok (.aload_n 0, 1) := by decide +kernel
theorem dX12_passes_7 : decode cX12_passes 7 = .ok (.iconst 0, 1) := by decide +kernel
theorem dX12_passes_8 : decode cX12_passes 8 = .ok (.putfield 292, 3) := by decide +kernel
theorem dX12_passes_11 : decode cX12_passes 11 = .ok (.aload_n 0, 1) := by decide +kernel
theorem dX12_passes_12 : decode cX12_passes 12 = .ok (.iconst (-1), 1) := by decide +kernel
theorem dX12_passes_13 : decode cX12_passes 13 = .ok (.putfield 295, 3) := by decide +kernel
theorem dX12_passes_16 : decode cX12_passes 16 = .ok (.aload_n 0, 1) := by decide +kernel
theorem dX12_passes_17 : decode cX12_passes 17 = .ok (.ldc_w 282, 3) := by decide +kernel
theorem dX12_passes_20 : decode cX12_passes 20 = .ok (.putfield 311, 3) := by decide +kernel
theorem dX12_passes_23 : decode cX12_passes 23 = .ok (.aload_n 0, 1) := by decide +kernel
theorem dX12_passes_24 : decode cX12_passes 24 = .ok (.invokevirtual 314, 3) := by decide +kernel
theorem dX12_passes_27 : decode cX12_passes 27 = .ok (.iload_n 3, 1) := by decide +kernel
theorem dX12_passes_28 : decode cX12_passes 28 = .ok (.if_icmp .lt 5, 3) := by decide +kernel
theorem dX12_passes_31 : decode cX12_passes 31 = .ok (.iconst 1, 1) := by decide +kernel
theorem dX12_passes_32 : decode cX12_passes 32 = .ok (.ireturn, 1) := by decide +kernel
theorem dX12_passes_33 : decode cX12_passes 33 = .ok (.aload_n 0, 1) := by decide +kernel
theorem dX12_passes_34 : decode cX12_passes 34 = .ok (.invokevirtual 308, 3) := by decide +kernel
theorem dX12_passes_37 : decode cX12_passes 37 = .ok (.iload_n 3, 1) := by decide +kernel
theorem dX12_passes_38 : decode cX12_passes 38 = .ok (.if_icmp .lt 5, 3) := by decide +kernel
theorem dX12_passes_41 : decode cX12_passes 41 = .ok (.iconst 2, 1) := by decide +kernel
theorem dX12_passes_42 : decode cX12_passes 42 = .ok (.ireturn, 1) := by decide +kernel
theorem dX12_passes_43 : decode cX12_passes 43 = .ok (.aload_n 0, 1) := by decide +kernel
theorem dX12_passes_44 : decode cX12_passes 44 = .ok (.invokevirtual 317, 3) := by decide +kernel
theorem dX12_passes_47 : decode cX12_passes 47 = .ok (.iload_n 3, 1) := by decide +kernel
theorem dX12_passes_48 : decode cX12_passes 48 = .ok (.if_icmp .lt 5, 3) := by decide +kernel
theorem dX12_passes_51 : decode cX12_passes 51 = .ok (.iconst 3, 1) := by decide +kernel
theorem dX12_passes_52 : decode cX12_passes 52 = .ok (.ireturn, 1) := by decide +kernel
theorem dX12_passes_53 : decode cX12_passes 53 = .ok (.aload_n 0, 1) := by decide +kernel
theorem dX12_passes_54 : decode cX12_passes 54 = .ok (.aload_n 0, 1) := by decide +kernel
theorem dX12_passes_55 : decode cX12_passes 55 = .ok (.iload_n 3, 1) := by decide +kernel
theorem dX12_passes_56 : decode cX12_passes 56 = .ok (.invokevirtual 304, 3) := by decide +kernel
theorem dX12_passes_59 : decode cX12_passes 59 = .ok (.putfield 311, 3) := by decide +kernel
theorem dX12_passes_62 : decode cX12_passes 62 = .ok (.aload_n 0, 1) := by decide +kernel
theorem dX12_passes_63 : decode cX12_passes 63 = .ok (.getfield 295, 3) := by decide +kernel
theorem dX12_passes_66 : decode cX12_passes 66 = .ok (.ifCond .lt 7, 3) := by decide +kernel
theorem dX12_passes_69 : decode cX12_passes 69 = .ok (.iconst 4, 1) := by decide +kernel
theorem dX12_passes_70 : decode cX12_passes 70 = .ok (.goto 16, 3) := by decide +kernel
theorem dX12_passes_73 : decode cX12_passes 73 = .ok (.aload_n 0, 1) := by decide +kernel
theorem dX12_passes_74 : decode cX12_passes 74 = .ok (.getfield 311, 3) := by decide +kernel
theorem dX12_passes_77 : decode cX12_passes 77 = .ok (.iload_n 3, 1) := by decide +kernel
theorem dX12_passes_78 : decode cX12_passes 78 = .ok (.if_icmp .lt 7, 3) := by decide +kernel
theorem dX12_passes_81 : decode cX12_passes 81 = .ok (.iconst 5, 1) := by decide +kernel
theorem dX12_passes_82 : decode cX12_passes 82 = .ok (.goto 4, 3) := by decide +kernel
theorem dX12_passes_85 : decode cX12_passes 85 = .ok (.iconst 0, 1) := by decide +kernel
theorem dX12_passes_86 : decode cX12_passes 86 = .ok (.ireturn, 1) := by decide +kernel
set_option maxRecDepth 20000 in
theorem ggX12_at_X12_isThere : GoodIn wsX12_at wsX12_isThere := goodIn_r _ [6, 1, 7, 8, 9, 10, 5, 11, 12, 13, 14, 15, 16, 17, 18, 19, 20, 21, 22, 23, 24, 25, 26, 27, 28, 29, 30, 31, 32, 33, 34, 35, 36, 37, 38, 39, 40, 41, 42, 43, 44, 45, 46, 47, 48, 49, 50, 51, 52, 53, 54, 55, 56, 57, 58, 59, 60, 61, 62, 63, 64, 65, 66, 67, 68, 69] (by decide +kernel) (by decide +kernel)
set_option maxRecDepth 20000 in
theorem gX12_at_X12_isThere : GoodIn wsX12_at (wsV RX12 320 RX12 yX12_isThere wsX12_isThere) := goodIn_app (goodIn_of _ (by decide +kernel)) ggX12_at_X12_isThere
theorem dX12_at_0 : decode cX12_at 0 = .ok (.aload_n 0, 1) := by decide +kernel
theorem dX12_at_1 : decode cX12_at 1 = .ok (.iload_n 1, 1) := by decide +kernel
theorem dX12_at_2 : decode cX12_at 2 = .ok (.invokevirtual 320, 3) := by decide +kernel
theorem dX12_at_5 : decode cX12_at 5 = .ok (.ifCond .eq 14, 3) := by decide +kernel
theorem dX12_at_8 : decode cX12_at 8 = .ok (.aload_n 0, 1) := by decide +kernel
theorem dX12_at_9 : decode cX12_at 9 = .ok (.getfield 70, 3) := by decide +kernel
theorem dX12_at_12 : decode cX12_at 12 = .ok (.iconst 1, 1) := by decide +kernel
theorem dX12_at_13 : decode cX12_at 13 = .ok (.iload_n 1, 1) := by decide +kernel
theorem dX12_at_14 : decode cX12_at 14 = .ok (.iadd, 1) := by decide +kernel
theorem dX12_at_15 : decode cX12_at 15 = .ok (.iaload, 1) := by decide +kernel
theorem dX12_at_16 : decode cX12_at 16 = .ok (.goto 6, 3) := by decide +kernel
theorem dX12_at_19 : decode cX12_at 19 = .ok (.sipush (-1000), 3) := by decide +kernel
theorem dX12_at_22 : decode cX12_at 22 = .ok (.ireturn, 1) := by decide +kernel
set_option maxRecDepth 20000 in
theorem ggX12_query_X12_isQuery : GoodIn wsX12_query wsX12_isQuery := goodIn_r _ [7, 8, 2, 9, 10, 6, 11, 17, 18, 19, 20, 21, 22, 23, 24, 25, 26, 27, 28, 29, 30, 31, 32, 33, 34, 35, 36, 37, 38, 39, 40, 41, 42, 43, 44, 45, 46, 47, 48, 49, 50, 51, 52, 53, 54, 55, 56, 57, 58, 59, 60, 61, 62, 63, 64, 65, 66, 67, 68, 69, 70, 71] (by decide +kernel) (by decide +kernel)
set_option maxRecDepth 20000 in
theorem gX12_query_X12_isQuery : GoodIn wsX12_query (wsV RX12 251 RX12 yX12_isQuery wsX12_isQuery) := goodIn_app (goodIn_of _ (by decide +kernel)) ggX12_query_X12_isQuery
set_option maxRecDepth 20000 in
theorem ggX12_query_X12_wideOf : GoodIn wsX12_query wsX12_wideOf := goodIn_r _ [15, 16, 2, 17, 18, 19, 20, 21, 22, 23, 24, 25, 26, 27, 28, 29, 30, 31, 32, 33, 34, 35, 36, 37, 38, 39, 40, 41, 42, 43, 44, 45, 46, 47, 48, 49, 50, 51, 52, 53, 54, 55, 56, 57, 58, 59, 60, 61, 62, 63, 64, 65, 66, 67, 68, 69, 70, 71] (by decide +kernel) (by decide +kernel)
set_option maxRecDepth 20000 in
theorem gX12_query_X12_wideOf : GoodIn wsX12_query (wsV RX12 254 RX12 yX12_wideOf wsX12_wideOf) := goodIn_app (goodIn_of _ (by decide +kernel)) ggX12_query_X12_wideOf
set_option maxRecDepth 20000 in
theorem ggX12_query_X12_in : GoodIn wsX12_query wsX12_in := goodIn_r _ [11] (by decide +kernel) (by decide +kernel)
set_option maxRecDepth 20000 in
theorem gX12_query_X12_in : GoodIn wsX12_query (va_wsS RX12 244 yX12_in wsX12_in) := goodIn_app (goodIn_of _ (by decide +kernel)) ggX12_query_X12_in
theorem dX12_query_0 : decode cX12_query 0 = .ok (.aload_n 0, 1) := by decide +kernel
theorem dX12_query_1 : decode cX12_query 1 = .ok (.iload_n 1, 1) := by decide +kernel
theorem dX12_query_2 : decode cX12_query 2 = .ok (.invokevirtual 251, 3) := by decide +kernel
theorem dX12_query_5 : decode cX12_query 5 = .ok (.ifCond .eq 39, 3) := by decide +kernel
theorem dX12_query_8 : decode cX12_query 8 = .ok (.iload_n 2, 1) := by decide +kernel
theorem dX12_query_9 : decode cX12_query 9 = .ok (.iconst 0, 1) := by decide +kernel
theorem dX12_query_10 : decode cX12_query 10 = .ok (.aload_n 0, 1) := by decide +kernel
theorem dX12_query_11 : decode cX12_query 11 = .ok (.iload_n 1, 1) := by decide +kernel
theorem dX12_query_12 : decode cX12_query 12 = .ok (.invokevirtual 254, 3) := by decide +kernel
theorem dX12_query_15 : decode cX12_query 15 = .ok (.iconst 1, 1) := by decide +kernel
theorem dX12_query_16 : decode cX12_query 16 = .ok (.isub, 1) := by decide +kernel
theorem dX12_query_17 : decode cX12_query 17 = .ok (.invokestatic 244, 3) := by decide +kernel
theorem dX12_query_20 : decode cX12_query 20 = .ok (.ifCond .eq 24, 3) := by decide +kernel
theorem dX12_query_23 : decode cX12_query 23 = .ok (.aload_n 0, 1) := by decide +kernel
theorem dX12_query_24 : decode cX12_query 24 = .ok (.getfield 55, 3) := by decide +kernel
theorem dX12_query_27 : decode cX12_query 27 = .ok (.bipush 16, 2) := by decide +kernel
theorem dX12_query_29 : decode cX12_query 29 = .ok (.iconst 5, 1) := by decide +kernel
theorem dX12_query_30 : decode cX12_query 30 = .ok (.aload_n 0, 1) := by decide +kernel
theorem dX12_query_31 : decode cX12_query 31 = .ok (.getfield 197, 3) := by decide +kernel
theorem dX12_query_34 : decode cX12_query 34 = .ok (.imul, 1) := by decide +kernel
theorem dX12_query_35 : decode cX12_query 35 = .ok (.iload_n 1, 1) := by decide +kernel
theorem dX12_query_36 : decode cX12_query 36 = .ok (.iadd, 1) := by decide +kernel
theorem dX12_query_37 : decode cX12_query 37 = .ok (.imul, 1) := by decide +kernel
theorem dX12_query_38 : decode cX12_query 38 = .ok (.iload_n 2, 1) := by decide +kernel
theorem dX12_query_39 : decode cX12_query 39 = .ok (.iadd, 1) := by decide +kernel
theorem dX12_query_40 : decode cX12_query 40 = .ok (.iaload, 1) := by decide +kernel
theorem dX12_query_41 : decode cX12_query 41 = .ok (.goto 6, 3) := by decide +kernel
theorem dX12_query_44 : decode cX12_query 44 = .ok (.sipush (-1000), 3) := by decide +kernel
theorem dX12_query_47 : decode cX12_query 47 = .ok (.ireturn, 1) := by decide +kernel
set_option maxRecDepth 20000 in
theorem ggX12_records_X12_keepsRow : GoodIn wsX12_records wsX12_keepsRow := goodIn_r _ [8, 3, 9, 10, 11, 12, 13, 14, 15, 16, 17, 18, 19, 20, 21, 22, 23, 24, 25, 26, 27, 28, 29, 30, 31, 32, 33, 34, 35, 36, 37, 38, 39, 40, 41, 42, 43, 44, 45, 46, 47, 48, 49, 50, 51, 52, 53, 54, 55, 56, 57, 58, 59, 60, 61, 62, 63, 64] (by decide +kernel) (by decide +kernel)
set_option maxRecDepth 20000 in
theorem gX12_records_X12_keepsRow : GoodIn wsX12_records (wsV RX12 121 RX12 yX12_keepsRow wsX12_keepsRow) := goodIn_app (goodIn_of _ (by decide +kernel)) ggX12_records_X12_keepsRow
theorem dX12_records_0 : decode cX12_records 0 = .ok (.aload_n 0, 1) := by decide +kernel
theorem dX12_records_1 : decode cX12_records 1 = .ok (.getfield 209, 3) := by decide +kernel
theorem dX12_records_4 : decode cX12_records 4 = .ok (.bipush 40, 2) := by decide +kernel
theorem dX12_records_6 : decode cX12_records 6 = .ok (.if_icmp .ne 44, 3) := by decide +kernel
theorem dX12_records_9 : decode cX12_records 9 = .ok (.iconst 0, 1) := by decide +kernel
theorem dX12_records_10 : decode cX12_records 10 = .ok (.istore_n 1, 1) := by decide +kernel
theorem dX12_records_11 : decode cX12_records 11 = .ok (.iload_n 1, 1) := by decide +kernel
theorem dX12_records_12 : decode cX12_records 12 = .ok (.sipush 6435, 3) := by decide +kernel
theorem dX12_records_15 : decode cX12_records 15 = .ok (.if_icmp .ge 25, 3) := by decide +kernel
theorem dX12_records_18 : decode cX12_records 18 = .ok (.aload_n 0, 1) := by decide +kernel
theorem dX12_records_19 : decode cX12_records 19 = .ok (.getfield 85, 3) := by decide +kernel
theorem dX12_records_22 : decode cX12_records 22 = .ok (.iload_n 1, 1) := by decide +kernel
theorem dX12_records_23 : decode cX12_records 23 = .ok (.aload_n 0, 1) := by decide +kernel
theorem dX12_records_24 : decode cX12_records 24 = .ok (.getfield 85, 3) := by decide +kernel
theorem dX12_records_27 : decode cX12_records 27 = .ok (.iload_n 1, 1) := by decide +kernel
theorem dX12_records_28 : decode cX12_records 28 = .ok (.sipush 165, 3) := by decide +kernel
theorem dX12_records_31 : decode cX12_records 31 = .ok (.iadd, 1) := by decide +kernel
theorem dX12_records_32 : decode cX12_records 32 = .ok (.iaload, 1) := by decide +kernel
theorem dX12_records_33 : decode cX12_records 33 = .ok (.iastore, 1) := by decide +kernel
theorem dX12_records_34 : decode cX12_records 34 = .ok (.iinc 1 1, 3) := by decide +kernel
theorem dX12_records_37 : decode cX12_records 37 = .ok (.goto (-26), 3) := by decide +kernel
theorem dX12_records_40 : decode cX12_records 40 = .ok (.aload_n 0, 1) := by decide +kernel
theorem dX12_records_41 : decode cX12_records 41 = .ok (.dup, 1) := by decide +kernel
theorem dX12_records_42 : decode cX12_records 42 = .ok (.getfield 209, 3) := by decide +kernel
theorem dX12_records_45 : decode cX12_records 45 = .ok (.iconst 1, 1) := by decide +kernel
theorem dX12_records_46 : decode cX12_records 46 = .ok (.isub, 1) := by decide +kernel
theorem dX12_records_47 : decode cX12_records 47 = .ok (.putfield 209, 3) := by decide +kernel
theorem dX12_records_50 : decode cX12_records 50 = .ok (.iconst 0, 1) := by decide +kernel
theorem dX12_records_51 : decode cX12_records 51 = .ok (.istore_n 1, 1) := by decide +kernel
theorem dX12_records_52 : decode cX12_records 52 = .ok (.iload_n 1, 1) := by decide +kernel
theorem dX12_records_53 : decode cX12_records 53 = .ok (.sipush 165, 3) := by decide +kernel
theorem dX12_records_56 : decode cX12_records 56 = .ok (.if_icmp .ge 30, 3) := by decide +kernel
theorem dX12_records_59 : decode cX12_records 59 = .ok (.aload_n 0, 1) := by decide +kernel
theorem dX12_records_60 : decode cX12_records 60 = .ok (.getfield 85, 3) := by decide +kernel
theorem dX12_records_63 : decode cX12_records 63 = .ok (.sipush 165, 3) := by decide +kernel
theorem dX12_records_66 : decode cX12_records 66 = .ok (.aload_n 0, 1) := by decide +kernel
theorem dX12_records_67 : decode cX12_records 67 = .ok (.getfield 209, 3) := by decide +kernel
theorem dX12_records_70 : decode cX12_records 70 = .ok (.imul, 1) := by decide +kernel
theorem dX12_records_71 : decode cX12_records 71 = .ok (.iload_n 1, 1) := by decide +kernel
theorem dX12_records_72 : decode cX12_records 72 = .ok (.iadd, 1) := by decide +kernel
theorem dX12_records_73 : decode cX12_records 73 = .ok (.aload_n 0, 1) := by decide +kernel
theorem dX12_records_74 : decode cX12_records 74 = .ok (.getfield 70, 3) := by decide +kernel
theorem dX12_records_77 : decode cX12_records 77 = .ok (.iload_n 1, 1) := by decide +kernel
theorem dX12_records_78 : decode cX12_records 78 = .ok (.iaload, 1) := by decide +kernel
theorem dX12_records_79 : decode cX12_records 79 = .ok (.iastore, 1) := by decide +kernel
theorem dX12_records_80 : decode cX12_records 80 = .ok (.iinc 1 1, 3) := by decide +kernel
theorem dX12_records_83 : decode cX12_records 83 = .ok (.goto (-31), 3) := by decide +kernel
theorem dX12_records_86 : decode cX12_records 86 = .ok (.aload_n 0, 1) := by decide +kernel
theorem dX12_records_87 : decode cX12_records 87 = .ok (.dup, 1) := by decide +kernel
theorem dX12_records_88 : decode cX12_records 88 = .ok (.getfield 209, 3) := by decide +kernel
theorem dX12_records_91 : decode cX12_records 91 = .ok (.iconst 1, 1) := by decide +kernel
theorem dX12_records_92 : decode cX12_records 92 = .ok (.iadd, 1) := by decide +kernel
theorem dX12_records_93 : decode cX12_records 93 = .ok (.putfield 209, 3) := by decide +kernel
theorem dX12_records_96 : decode cX12_records 96 = .ok (.aload_n 0, 1) := by decide +kernel
theorem dX12_records_97 : decode cX12_records 97 = .ok (.invokevirtual 121, 3) := by decide +kernel
theorem dX12_records_100 : decode cX12_records 100 = .ok (.return_, 1) := by decide +kernel
set_option maxRecDepth 20000 in
theorem ggX12_comes_X12_copies : GoodIn wsX12_comes wsX12_copies := goodIn_r _ [7, 2, 1, 18, 19, 20, 21, 22, 23, 24, 25, 26, 27, 28, 29, 30, 31, 32, 33, 34, 35, 36, 37, 38, 39, 40, 41, 42, 43, 44, 45, 46, 47, 48, 49, 50, 51, 52, 53, 54, 55, 56, 57, 58, 59, 60, 61, 62, 63, 64, 65, 66, 67, 68, 69, 70, 71, 72] (by decide +kernel) (by decide +kernel)
set_option maxRecDepth 20000 in
theorem gX12_comes_X12_copies : GoodIn wsX12_comes (wsV RX12 323 RX12 yX12_copies wsX12_copies) := goodIn_app (goodIn_of _ (by decide +kernel)) ggX12_comes_X12_copies
set_option maxRecDepth 20000 in
theorem ggX12_comes_X12_records : GoodIn wsX12_comes wsX12_records := goodIn_r _ [11, 12, 13, 1, 14, 15, 16, 6, 17, 2, 18, 19, 20, 21, 22, 23, 24, 25, 26, 27, 28, 29, 30, 31, 32, 33, 34, 35, 36, 37, 38, 39, 40, 41, 42, 43, 44, 45, 46, 47, 48, 49, 50, 51, 52, 53, 54, 55, 56, 57, 58, 59, 60, 61, 62, 63, 64, 65, 66, 67, 68, 69, 70, 71, 72] (by decide +kernel) (by decide +kernel)
set_option maxRecDepth 20000 in
theorem gX12_comes_X12_records : GoodIn wsX12_comes (wsV RX12 326 RX12 yX12_records wsX12_records) := goodIn_app (goodIn_of _ (by decide +kernel)) ggX12_comes_X12_records
theorem dX12_comes_0 : decode cX12_comes 0 = .ok (.aload_n 0, 1) := by decide +kernel
theorem dX12_comes_1 : decode cX12_comes 1 = .ok (.getfield 70, 3) := by decide +kernel
theorem dX12_comes_4 : decode cX12_comes 4 = .ok (.iconst 0, 1) := by decide +kernel
theorem dX12_comes_5 : decode cX12_comes 5 = .ok (.iaload, 1) := by decide +kernel
theorem dX12_comes_6 : decode cX12_comes 6 = .ok (.sipush 160, 3) := by decide +kernel
theorem dX12_comes_9 : decode cX12_comes 9 = .ok (.if_icmp .ne 5, 3) := by decide +kernel
theorem dX12_comes_12 : decode cX12_comes 12 = .ok (.iconst (-1), 1) := by decide +kernel
theorem dX12_comes_13 : decode cX12_comes 13 = .ok (.ireturn, 1) := by decide +kernel
theorem dX12_comes_14 : decode cX12_comes 14 = .ok (.aload_n 0, 1) := by decide +kernel
theorem dX12_comes_15 : decode cX12_comes 15 = .ok (.invokevirtual 323, 3) := by decide +kernel
theorem dX12_comes_18 : decode cX12_comes 18 = .ok (.aload_n 0, 1) := by decide +kernel
theorem dX12_comes_19 : decode cX12_comes 19 = .ok (.getfield 73, 3) := by decide +kernel
theorem dX12_comes_22 : decode cX12_comes 22 = .ok (.iconst 1, 1) := by decide +kernel
theorem dX12_comes_23 : decode cX12_comes 23 = .ok (.aload_n 0, 1) := by decide +kernel
theorem dX12_comes_24 : decode cX12_comes 24 = .ok (.getfield 73, 3) := by decide +kernel
theorem dX12_comes_27 : decode cX12_comes 27 = .ok (.iconst 0, 1) := by decide +kernel
theorem dX12_comes_28 : decode cX12_comes 28 = .ok (.iaload, 1) := by decide +kernel
theorem dX12_comes_29 : decode cX12_comes 29 = .ok (.iadd, 1) := by decide +kernel
theorem dX12_comes_30 : decode cX12_comes 30 = .ok (.iload_n 1, 1) := by decide +kernel
theorem dX12_comes_31 : decode cX12_comes 31 = .ok (.iastore, 1) := by decide +kernel
theorem dX12_comes_32 : decode cX12_comes 32 = .ok (.aload_n 0, 1) := by decide +kernel
theorem dX12_comes_33 : decode cX12_comes 33 = .ok (.getfield 73, 3) := by decide +kernel
theorem dX12_comes_36 : decode cX12_comes 36 = .ok (.iconst 0, 1) := by decide +kernel
theorem dX12_comes_37 : decode cX12_comes 37 = .ok (.dup2, 1) := by decide +kernel
theorem dX12_comes_38 : decode cX12_comes 38 = .ok (.iaload, 1) := by decide +kernel
theorem dX12_comes_39 : decode cX12_comes 39 = .ok (.iconst 1, 1) := by decide +kernel
theorem dX12_comes_40 : decode cX12_comes 40 = .ok (.iadd, 1) := by decide +kernel
theorem dX12_comes_41 : decode cX12_comes 41 = .ok (.iastore, 1) := by decide +kernel
theorem dX12_comes_42 : decode cX12_comes 42 = .ok (.aload_n 0, 1) := by decide +kernel
theorem dX12_comes_43 : decode cX12_comes 43 = .ok (.invokevirtual 326, 3) := by decide +kernel
theorem dX12_comes_46 : decode cX12_comes 46 = .ok (.aload_n 0, 1) := by decide +kernel
theorem dX12_comes_47 : decode cX12_comes 47 = .ok (.getfield 70, 3) := by decide +kernel
theorem dX12_comes_50 : decode cX12_comes 50 = .ok (.iconst 0, 1) := by decide +kernel
theorem dX12_comes_51 : decode cX12_comes 51 = .ok (.iaload, 1) := by decide +kernel
theorem dX12_comes_52 : decode cX12_comes 52 = .ok (.ireturn, 1) := by decide +kernel
set_option maxRecDepth 20000 in
theorem ggX12_push_X12_in : GoodIn wsX12_push wsX12_in := goodIn_r _ [4] (by decide +kernel) (by decide +kernel)
set_option maxRecDepth 20000 in
theorem gX12_push_X12_in : GoodIn wsX12_push (va_wsS RX12 244 yX12_in wsX12_in) := goodIn_app (goodIn_of _ (by decide +kernel)) ggX12_push_X12_in
set_option maxRecDepth 20000 in
theorem ggX12_push_X12_comes : GoodIn wsX12_push wsX12_comes := goodIn_r _ [8, 9, 10, 11, 12, 13, 3, 14, 15, 16, 17, 18, 19, 20, 21, 22, 23, 24, 25, 26, 27, 28, 29, 30, 31, 32, 33, 34, 35, 36, 37, 38, 39, 40, 41, 42, 43, 44, 45, 46, 47, 48, 49, 50, 51, 52, 53, 54, 55, 56, 57, 58, 59, 60, 61, 62, 63, 64, 65, 66, 67, 68, 69, 70, 71, 72, 73, 74, 75, 76, 77, 78, 79] (by decide +kernel) (by decide +kernel)
set_option maxRecDepth 20000 in
theorem gX12_push_X12_comes : GoodIn wsX12_push (wsV RX12 329 RX12 yX12_comes wsX12_comes) := goodIn_app (goodIn_of _ (by decide +kernel)) ggX12_push_X12_comes
theorem dX12_push_0 : decode cX12_push 0 = .ok (.iload_n 1, 1) := by decide +kernel
theorem dX12_push_1 : decode cX12_push 1 = .ok (.sipush (-999), 3) := by decide +kernel
theorem dX12_push_4 : decode cX12_push 4 = .ok (.sipush 999, 3) := by decide +kernel
theorem dX12_push_7 : decode cX12_push 7 = .ok (.invokestatic 244, 3) := by decide +kernel
theorem dX12_push_10 : decode cX12_push 10 = .ok (.ifCond .eq 11, 3) := by decide +kernel
theorem dX12_push_13 : decode cX12_push 13 = .ok (.aload_n 0, 1) := by decide +kernel
theorem dX12_push_14 : decode cX12_push 14 = .ok (.iload_n 1, 1) := by decide +kernel
theorem dX12_push_15 : decode cX12_push 15 = .ok (.invokevirtual 329, 3) := by decide +kernel
theorem dX12_push_18 : decode cX12_push 18 = .ok (.goto 4, 3) := by decide +kernel
theorem dX12_push_21 : decode cX12_push 21 = .ok (.iconst (-1), 1) := by decide +kernel
theorem dX12_push_22 : decode cX12_push 22 = .ok (.ireturn, 1) := by decide +kernel
set_option maxRecDepth 20000 in
theorem ggX12_gap_X12_comes : GoodIn wsX12_gap wsX12_comes := goodIn_r _ [6, 7, 8, 9, 10, 11, 5, 12, 13, 14, 15, 16, 17, 18, 19, 20, 21, 22, 23, 24, 25, 26, 27, 28, 29, 30, 31, 32, 33, 34, 35, 36, 37, 38, 39, 40, 41, 42, 43, 44, 45, 46, 47, 48, 49, 50, 51, 52, 53, 54, 55, 56, 57, 58, 59, 60, 61, 62, 63, 64, 65, 66, 67, 68, 69, 70, 71, 72, 73, 74, 75, 76, 77] (by decide +kernel) (by decide +kernel)
set_option maxRecDepth 20000 in
theorem gX12_gap_X12_comes : GoodIn wsX12_gap (wsV RX12 329 RX12 yX12_comes wsX12_comes) := goodIn_app (goodIn_of _ (by decide +kernel)) ggX12_gap_X12_comes
theorem dX12_gap_0 : decode cX12_gap 0 = .ok (.aload_n 0, 1) := by decide +kernel
theorem dX12_gap_1 : decode cX12_gap 1 = .ok (.ldc 239, 2) := by decide +kernel
theorem dX12_gap_3 : decode cX12_gap 3 = .ok (.invokevirtual 329, 3) := by decide +kernel
theorem dX12_gap_6 : decode cX12_gap 6 = .ok (.ireturn, 1) := by decide +kernel
set_option maxRecDepth 20000 in
theorem ggX12_mend_X12_isPlace : GoodIn wsX12_mend wsX12_isPlace := goodIn_r _ [7, 2, 8, 9, 6, 10, 33, 34, 35, 36, 37, 38, 39, 40, 41, 42, 43, 44, 45, 46, 47, 48, 49, 50, 51, 52, 53, 54, 55, 56, 57, 58, 59, 60, 61, 62, 63, 64, 65, 66, 67, 68, 69, 70, 71, 72, 73, 74, 75, 76, 77, 78, 79, 80, 81, 82, 83, 84, 85, 86, 87] (by decide +kernel) (by decide +kernel)
set_option maxRecDepth 20000 in
theorem gX12_mend_X12_isPlace : GoodIn wsX12_mend (wsV RX12 248 RX12 yX12_isPlace wsX12_isPlace) := goodIn_app (goodIn_of _ (by decide +kernel)) ggX12_mend_X12_isPlace
set_option maxRecDepth 20000 in
theorem ggX12_mend_X12_isThere : GoodIn wsX12_mend wsX12_isThere := goodIn_r _ [14, 2, 15, 3, 4, 5, 6, 7, 8, 9, 10, 33, 34, 35, 36, 37, 38, 39, 40, 41, 42, 43, 44, 45, 46, 47, 48, 49, 50, 51, 52, 53, 54, 55, 56, 57, 58, 59, 60, 61, 62, 63, 64, 65, 66, 67, 68, 69, 70, 71, 72, 73, 74, 75, 76, 77, 78, 79, 80, 81, 82, 83, 84, 85, 86, 87] (by decide +kernel) (by decide +kernel)
set_option maxRecDepth 20000 in
theorem gX12_mend_X12_isThere : GoodIn wsX12_mend (wsV RX12 320 RX12 yX12_isThere wsX12_isThere) := goodIn_app (goodIn_of _ (by decide +kernel)) ggX12_mend_X12_isThere
set_option maxRecDepth 20000 in
theorem ggX12_mend_X12_copies : GoodIn wsX12_mend wsX12_copies := goodIn_r _ [19, 1, 2, 33, 34, 35, 36, 37, 38, 39, 40, 41, 42, 43, 44, 45, 46, 47, 48, 49, 50, 51, 52, 53, 54, 55, 56, 57, 58, 59, 60, 61, 62, 63, 64, 65, 66, 67, 68, 69, 70, 71, 72, 73, 74, 75, 76, 77, 78, 79, 80, 81, 82, 83, 84, 85, 86, 87] (by decide +kernel) (by decide +kernel)
set_option maxRecDepth 20000 in
theorem gX12_mend_X12_copies : GoodIn wsX12_mend (wsV RX12 323 RX12 yX12_copies wsX12_copies) := goodIn_app (goodIn_of _ (by decide +kernel)) ggX12_mend_X12_copies
set_option maxRecDepth 20000 in
theorem ggX12_mend_X12_downBy : GoodIn wsX12_mend wsX12_downBy := goodIn_r _ [22] (by decide +kernel) (by decide +kernel)
set_option maxRecDepth 20000 in
theorem gX12_mend_X12_downBy : GoodIn wsX12_mend (va_wsS RX12 261 yX12_downBy wsX12_downBy) := goodIn_app (goodIn_of _ (by decide +kernel)) ggX12_mend_X12_downBy
set_option maxRecDepth 20000 in
theorem ggX12_mend_X12_records : GoodIn wsX12_mend wsX12_records := goodIn_r _ [26, 27, 28, 2, 29, 30, 31, 6, 32, 1, 33, 34, 35, 36, 37, 38, 39, 40, 41, 42, 43, 44, 45, 46, 47, 48, 49, 50, 51, 52, 53, 54, 55, 56, 57, 58, 59, 60, 61, 62, 63, 64, 65, 66, 67, 68, 69, 70, 71, 72, 73, 74, 75, 76, 77, 78, 79, 80, 81, 82, 83, 84, 85, 86, 87] (by decide +kernel) (by decide +kernel)
set_option maxRecDepth 20000 in
theorem gX12_mend_X12_records : GoodIn wsX12_mend (wsV RX12 326 RX12 yX12_records wsX12_records) := goodIn_app (goodIn_of _ (by decide +kernel)) ggX12_mend_X12_records
theorem dX12_mend_0 : decode cX12_mend 0 = .ok (.aload_n 0, 1) := by decide +kernel
theorem dX12_mend_1 : decode cX12_mend 1 = .ok (.iload_n 1, 1) := by decide +kernel
theorem dX12_mend_2 : decode cX12_mend 2 = .ok (.invokevirtual 248, 3) := by decide +kernel
theorem dX12_mend_5 : decode cX12_mend 5 = .ok (.ifCond .eq 31, 3) := by decide +kernel
theorem dX12_mend_8 : decode cX12_mend 8 = .ok (.aload_n 0, 1) := by decide +kernel
theorem dX12_mend_9 : decode cX12_mend 9 = .ok (.iload_n 1, 1) := by decide +kernel
theorem dX12_mend_10 : decode cX12_mend 10 = .ok (.invokevirtual 320, 3) := by decide +kernel
theorem dX12_mend_13 : decode cX12_mend 13 = .ok (.ifCond .ne 23, 3) := by decide +kernel
theorem dX12_mend_16 : decode cX12_mend 16 = .ok (.aload_n 0, 1) := by decide +kernel
theorem dX12_mend_17 : decode cX12_mend 17 = .ok (.iload_n 1, 1) := by decide +kernel
theorem dX12_mend_18 : decode cX12_mend 18 = .ok (.iconst 1, 1) := by decide +kernel
theorem dX12_mend_19 : decode cX12_mend 19 = .ok (.isub, 1) := by decide +kernel
theorem dX12_mend_20 : decode cX12_mend 20 = .ok (.invokevirtual 320, 3) := by decide +kernel
theorem dX12_mend_23 : decode cX12_mend 23 = .ok (.ifCond .eq 13, 3) := by decide +kernel
theorem dX12_mend_26 : decode cX12_mend 26 = .ok (.aload_n 0, 1) := by decide +kernel
theorem dX12_mend_27 : decode cX12_mend 27 = .ok (.iload_n 1, 1) := by decide +kernel
theorem dX12_mend_28 : decode cX12_mend 28 = .ok (.iconst 1, 1) := by decide +kernel
theorem dX12_mend_29 : decode cX12_mend 29 = .ok (.iadd, 1) := by decide +kernel
theorem dX12_mend_30 : decode cX12_mend 30 = .ok (.invokevirtual 320, 3) := by decide +kernel
theorem dX12_mend_33 : decode cX12_mend 33 = .ok (.ifCond .ne 7, 3) := by decide +kernel
theorem dX12_mend_36 : decode cX12_mend 36 = .ok (.sipush (-1000), 3) := by decide +kernel
theorem dX12_mend_39 : decode cX12_mend 39 = .ok (.ireturn, 1) := by decide +kernel
theorem dX12_mend_40 : decode cX12_mend 40 = .ok (.aload_n 0, 1) := by decide +kernel
theorem dX12_mend_41 : decode cX12_mend 41 = .ok (.invokevirtual 323, 3) := by decide +kernel
theorem dX12_mend_44 : decode cX12_mend 44 = .ok (.aload_n 0, 1) := by decide +kernel
theorem dX12_mend_45 : decode cX12_mend 45 = .ok (.getfield 73, 3) := by decide +kernel
theorem dX12_mend_48 : decode cX12_mend 48 = .ok (.iconst 1, 1) := by decide +kernel
theorem dX12_mend_49 : decode cX12_mend 49 = .ok (.iload_n 1, 1) := by decide +kernel
theorem dX12_mend_50 : decode cX12_mend 50 = .ok (.iadd, 1) := by decide +kernel
theorem dX12_mend_51 : decode cX12_mend 51 = .ok (.aload_n 0, 1) := by decide +kernel
theorem dX12_mend_52 : decode cX12_mend 52 = .ok (.getfield 73, 3) := by decide +kernel
theorem dX12_mend_55 : decode cX12_mend 55 = .ok (.iload_n 1, 1) := by decide +kernel
theorem dX12_mend_56 : decode cX12_mend 56 = .ok (.iaload, 1) := by decide +kernel
theorem dX12_mend_57 : decode cX12_mend 57 = .ok (.aload_n 0, 1) := by decide +kernel
theorem dX12_mend_58 : decode cX12_mend 58 = .ok (.getfield 73, 3) := by decide +kernel
theorem dX12_mend_61 : decode cX12_mend 61 = .ok (.iconst 2, 1) := by decide +kernel
theorem dX12_mend_62 : decode cX12_mend 62 = .ok (.iload_n 1, 1) := by decide +kernel
theorem dX12_mend_63 : decode cX12_mend 63 = .ok (.iadd, 1) := by decide +kernel
theorem dX12_mend_64 : decode cX12_mend 64 = .ok (.iaload, 1) := by decide +kernel
theorem dX12_mend_65 : decode cX12_mend 65 = .ok (.iadd, 1) := by decide +kernel
theorem dX12_mend_66 : decode cX12_mend 66 = .ok (.iconst 2, 1) := by decide +kernel
theorem dX12_mend_67 : decode cX12_mend 67 = .ok (.invokestatic 261, 3) := by decide +kernel
theorem dX12_mend_70 : decode cX12_mend 70 = .ok (.iastore, 1) := by decide +kernel
theorem dX12_mend_71 : decode cX12_mend 71 = .ok (.aload_n 0, 1) := by decide +kernel
theorem dX12_mend_72 : decode cX12_mend 72 = .ok (.invokevirtual 326, 3) := by decide +kernel
theorem dX12_mend_75 : decode cX12_mend 75 = .ok (.aload_n 0, 1) := by decide +kernel
theorem dX12_mend_76 : decode cX12_mend 76 = .ok (.getfield 70, 3) := by decide +kernel
theorem dX12_mend_79 : decode cX12_mend 79 = .ok (.iconst 1, 1) := by decide +kernel
theorem dX12_mend_80 : decode cX12_mend 80 = .ok (.iload_n 1, 1) := by decide +kernel
theorem dX12_mend_81 : decode cX12_mend 81 = .ok (.iadd, 1) := by decide +kernel
theorem dX12_mend_82 : decode cX12_mend 82 = .ok (.iaload, 1) := by decide +kernel
theorem dX12_mend_83 : decode cX12_mend 83 = .ok (.ireturn, 1) := by decide +kernel
set_option maxRecDepth 20000 in
theorem ggX12_drop_X12_in : GoodIn wsX12_drop wsX12_in := goodIn_r _ [6] (by decide +kernel) (by decide +kernel)
set_option maxRecDepth 20000 in
theorem gX12_drop_X12_in : GoodIn wsX12_drop (va_wsS RX12 244 yX12_in wsX12_in) := goodIn_app (goodIn_of _ (by decide +kernel)) ggX12_drop_X12_in
set_option maxRecDepth 20000 in
theorem ggX12_drop_X12_copies : GoodIn wsX12_drop wsX12_copies := goodIn_r _ [10, 2, 1, 21, 22, 23, 24, 25, 26, 27, 28, 29, 30, 31, 32, 33, 34, 35, 36, 37, 38, 39, 40, 41, 42, 43, 44, 45, 46, 47, 48, 49, 50, 51, 52, 53, 54, 55, 56, 57, 58, 59, 60, 61, 62, 63, 64, 65, 66, 67, 68, 69, 70, 71, 72, 73, 74, 75] (by decide +kernel) (by decide +kernel)
set_option maxRecDepth 20000 in
theorem gX12_drop_X12_copies : GoodIn wsX12_drop (wsV RX12 323 RX12 yX12_copies wsX12_copies) := goodIn_app (goodIn_of _ (by decide +kernel)) ggX12_drop_X12_copies
set_option maxRecDepth 20000 in
theorem ggX12_drop_X12_records : GoodIn wsX12_drop wsX12_records := goodIn_r _ [14, 15, 16, 1, 17, 18, 19, 5, 20, 2, 21, 22, 23, 24, 25, 26, 27, 28, 29, 30, 31, 32, 33, 34, 35, 36, 37, 38, 39, 40, 41, 42, 43, 44, 45, 46, 47, 48, 49, 50, 51, 52, 53, 54, 55, 56, 57, 58, 59, 60, 61, 62, 63, 64, 65, 66, 67, 68, 69, 70, 71, 72, 73, 74, 75] (by decide +kernel) (by decide +kernel)
set_option maxRecDepth 20000 in
theorem gX12_drop_X12_records : GoodIn wsX12_drop (wsV RX12 326 RX12 yX12_records wsX12_records) := goodIn_app (goodIn_of _ (by decide +kernel)) ggX12_drop_X12_records
theorem dX12_drop_0 : decode cX12_drop 0 = .ok (.iload_n 1, 1) := by decide +kernel
theorem dX12_drop_1 : decode cX12_drop 1 = .ok (.iconst 1, 1) := by decide +kernel
theorem dX12_drop_2 : decode cX12_drop 2 = .ok (.aload_n 0, 1) := by decide +kernel
theorem dX12_drop_3 : decode cX12_drop 3 = .ok (.getfield 70, 3) := by decide +kernel
theorem dX12_drop_6 : decode cX12_drop 6 = .ok (.iconst 0, 1) := by decide +kernel
theorem dX12_drop_7 : decode cX12_drop 7 = .ok (.iaload, 1) := by decide +kernel
theorem dX12_drop_8 : decode cX12_drop 8 = .ok (.invokestatic 244, 3) := by decide +kernel
theorem dX12_drop_11 : decode cX12_drop 11 = .ok (.ifCond .ne 5, 3) := by decide +kernel
theorem dX12_drop_14 : decode cX12_drop 14 = .ok (.iconst 0, 1) := by decide +kernel
theorem dX12_drop_15 : decode cX12_drop 15 = .ok (.ireturn, 1) := by decide +kernel
theorem dX12_drop_16 : decode cX12_drop 16 = .ok (.aload_n 0, 1) := by decide +kernel
theorem dX12_drop_17 : decode cX12_drop 17 = .ok (.invokevirtual 323, 3) := by decide +kernel
theorem dX12_drop_20 : decode cX12_drop 20 = .ok (.iconst 0, 1) := by decide +kernel
theorem dX12_drop_21 : decode cX12_drop 21 = .ok (.istore_n 2, 1) := by decide +kernel
theorem dX12_drop_22 : decode cX12_drop 22 = .ok (.iload_n 2, 1) := by decide +kernel
theorem dX12_drop_23 : decode cX12_drop 23 = .ok (.sipush 160, 3) := by decide +kernel
theorem dX12_drop_26 : decode cX12_drop 26 = .ok (.if_icmp .ge 43, 3) := by decide +kernel
theorem dX12_drop_29 : decode cX12_drop 29 = .ok (.aload_n 0, 1) := by decide +kernel
theorem dX12_drop_30 : decode cX12_drop 30 = .ok (.getfield 73, 3) := by decide +kernel
theorem dX12_drop_33 : decode cX12_drop 33 = .ok (.iconst 1, 1) := by decide +kernel
theorem dX12_drop_34 : decode cX12_drop 34 = .ok (.iload_n 2, 1) := by decide +kernel
theorem dX12_drop_35 : decode cX12_drop 35 = .ok (.iadd, 1) := by decide +kernel
theorem dX12_drop_36 : decode cX12_drop 36 = .ok (.iload_n 2, 1) := by decide +kernel
theorem dX12_drop_37 : decode cX12_drop 37 = .ok (.iload_n 1, 1) := by decide +kernel
theorem dX12_drop_38 : decode cX12_drop 38 = .ok (.iadd, 1) := by decide +kernel
theorem dX12_drop_39 : decode cX12_drop 39 = .ok (.aload_n 0, 1) := by decide +kernel
theorem dX12_drop_40 : decode cX12_drop 40 = .ok (.getfield 70, 3) := by decide +kernel
theorem dX12_drop_43 : decode cX12_drop 43 = .ok (.iconst 0, 1) := by decide +kernel
theorem dX12_drop_44 : decode cX12_drop 44 = .ok (.iaload, 1) := by decide +kernel
theorem dX12_drop_45 : decode cX12_drop 45 = .ok (.if_icmp .ge 16, 3) := by decide +kernel
theorem dX12_drop_48 : decode cX12_drop 48 = .ok (.aload_n 0, 1) := by decide +kernel
theorem dX12_drop_49 : decode cX12_drop 49 = .ok (.getfield 70, 3) := by decide +kernel
theorem dX12_drop_52 : decode cX12_drop 52 = .ok (.iconst 1, 1) := by decide +kernel
theorem dX12_drop_53 : decode cX12_drop 53 = .ok (.iload_n 2, 1) := by decide +kernel
theorem dX12_drop_54 : decode cX12_drop 54 = .ok (.iadd, 1) := by decide +kernel
theorem dX12_drop_55 : decode cX12_drop 55 = .ok (.iload_n 1, 1) := by decide +kernel
theorem dX12_drop_56 : decode cX12_drop 56 = .ok (.iadd, 1) := by decide +kernel
theorem dX12_drop_57 : decode cX12_drop 57 = .ok (.iaload, 1) := by decide +kernel
theorem dX12_drop_58 : decode cX12_drop 58 = .ok (.goto 4, 3) := by decide +kernel
theorem dX12_drop_61 : decode cX12_drop 61 = .ok (.iconst 0, 1) := by decide +kernel
theorem dX12_drop_62 : decode cX12_drop 62 = .ok (.iastore, 1) := by decide +kernel
theorem dX12_drop_63 : decode cX12_drop 63 = .ok (.iinc 2 1, 3) := by decide +kernel
theorem dX12_drop_66 : decode cX12_drop 66 = .ok (.goto (-44), 3) := by decide +kernel
theorem dX12_drop_69 : decode cX12_drop 69 = .ok (.aload_n 0, 1) := by decide +kernel
theorem dX12_drop_70 : decode cX12_drop 70 = .ok (.getfield 73, 3) := by decide +kernel
theorem dX12_drop_73 : decode cX12_drop 73 = .ok (.iconst 0, 1) := by decide +kernel
theorem dX12_drop_74 : decode cX12_drop 74 = .ok (.dup2, 1) := by decide +kernel
theorem dX12_drop_75 : decode cX12_drop 75 = .ok (.iaload, 1) := by decide +kernel
theorem dX12_drop_76 : decode cX12_drop 76 = .ok (.iload_n 1, 1) := by decide +kernel
theorem dX12_drop_77 : decode cX12_drop 77 = .ok (.isub, 1) := by decide +kernel
theorem dX12_drop_78 : decode cX12_drop 78 = .ok (.iastore, 1) := by decide +kernel
theorem dX12_drop_79 : decode cX12_drop 79 = .ok (.aload_n 0, 1) := by decide +kernel
theorem dX12_drop_80 : decode cX12_drop 80 = .ok (.invokevirtual 326, 3) := by decide +kernel
theorem dX12_drop_83 : decode cX12_drop 83 = .ok (.iconst 1, 1) := by decide +kernel
theorem dX12_drop_84 : decode cX12_drop 84 = .ok (.ireturn, 1) := by decide +kernel
set_option maxRecDepth 20000 in
theorem ggX12_set_X12_in : GoodIn wsX12_set wsX12_in := goodIn_r _ [6] (by decide +kernel) (by decide +kernel)
set_option maxRecDepth 20000 in
theorem gX12_set_X12_in : GoodIn wsX12_set (va_wsS RX12 244 yX12_in wsX12_in) := goodIn_app (goodIn_of _ (by decide +kernel)) ggX12_set_X12_in
set_option maxRecDepth 20000 in
theorem ggX12_set_X12_copies : GoodIn wsX12_set wsX12_copies := goodIn_r _ [10, 2, 1, 21, 22, 23, 24, 25, 26, 27, 28, 29, 30, 31, 32, 33, 34, 35, 36, 37, 38, 39, 40, 41, 42, 43, 44, 45, 46, 47, 48, 49, 50, 51, 52, 53, 54, 55, 56, 57, 58, 59, 60, 61, 62, 63, 64, 65, 66, 67, 68, 69, 70, 71, 72, 73, 74, 75] (by decide +kernel) (by decide +kernel)
set_option maxRecDepth 20000 in
theorem gX12_set_X12_copies : GoodIn wsX12_set (wsV RX12 323 RX12 yX12_copies wsX12_copies) := goodIn_app (goodIn_of _ (by decide +kernel)) ggX12_set_X12_copies
set_option maxRecDepth 20000 in
theorem ggX12_set_X12_records : GoodIn wsX12_set wsX12_records := goodIn_r _ [14, 15, 16, 1, 17, 18, 19, 5, 20, 2, 21, 22, 23, 24, 25, 26, 27, 28, 29, 30, 31, 32, 33, 34, 35, 36, 37, 38, 39, 40, 41, 42, 43, 44, 45, 46, 47, 48, 49, 50, 51, 52, 53, 54, 55, 56, 57, 58, 59, 60, 61, 62, 63, 64, 65, 66, 67, 68, 69, 70, 71, 72, 73, 74, 75] (by decide +kernel) (by decide +kernel)
set_option maxRecDepth 20000 in
theorem gX12_set_X12_records : GoodIn wsX12_set (wsV RX12 326 RX12 yX12_records wsX12_records) := goodIn_app (goodIn_of _ (by decide +kernel)) ggX12_set_X12_records
theorem dX12_set_0 : decode cX12_set 0 = .ok (.iload_n 1, 1) := by decide +kernel
theorem dX12_set_1 : decode cX12_set 1 = .ok (.iconst 0, 1) := by decide +kernel
theorem dX12_set_2 : decode cX12_set 2 = .ok (.iconst 3, 1) := by decide +kernel
theorem dX12_set_3 : decode cX12_set 3 = .ok (.invokestatic 244, 3) := by decide +kernel
theorem dX12_set_6 : decode cX12_set 6 = .ok (.ifCond .eq 17, 3) := by decide +kernel
theorem dX12_set_9 : decode cX12_set 9 = .ok (.aload_n 0, 1) := by decide +kernel
theorem dX12_set_10 : decode cX12_set 10 = .ok (.getfield 70, 3) := by decide +kernel
theorem dX12_set_13 : decode cX12_set 13 = .ok (.sipush 161, 3) := by decide +kernel
theorem dX12_set_16 : decode cX12_set 16 = .ok (.iload_n 1, 1) := by decide +kernel
theorem dX12_set_17 : decode cX12_set 17 = .ok (.iadd, 1) := by decide +kernel
theorem dX12_set_18 : decode cX12_set 18 = .ok (.iaload, 1) := by decide +kernel
theorem dX12_set_19 : decode cX12_set 19 = .ok (.iload_n 2, 1) := by decide +kernel
theorem dX12_set_20 : decode cX12_set 20 = .ok (.if_icmp .ne 5, 3) := by decide +kernel
theorem dX12_set_23 : decode cX12_set 23 = .ok (.iconst 0, 1) := by decide +kernel
theorem dX12_set_24 : decode cX12_set 24 = .ok (.ireturn, 1) := by decide +kernel
theorem dX12_set_25 : decode cX12_set 25 = .ok (.iload_n 1, 1) := by decide +kernel
theorem dX12_set_26 : decode cX12_set 26 = .ok (.iconst 3, 1) := by decide +kernel
theorem dX12_set_27 : decode cX12_set 27 = .ok (.if_icmp .ne 7, 3) := by decide +kernel
theorem dX12_set_30 : decode cX12_set 30 = .ok (.iconst 1, 1) := by decide +kernel
theorem dX12_set_31 : decode cX12_set 31 = .ok (.goto 4, 3) := by decide +kernel
theorem dX12_set_34 : decode cX12_set 34 = .ok (.iconst 0, 1) := by decide +kernel
theorem dX12_set_35 : decode cX12_set 35 = .ok (.istore_n 3, 1) := by decide +kernel
theorem dX12_set_36 : decode cX12_set 36 = .ok (.iload_n 1, 1) := by decide +kernel
theorem dX12_set_37 : decode cX12_set 37 = .ok (.ifCond .ne 8, 3) := by decide +kernel
theorem dX12_set_40 : decode cX12_set 40 = .ok (.bipush 15, 2) := by decide +kernel
theorem dX12_set_42 : decode cX12_set 42 = .ok (.goto 23, 3) := by decide +kernel
theorem dX12_set_45 : decode cX12_set 45 = .ok (.iload_n 1, 1) := by decide +kernel
theorem dX12_set_46 : decode cX12_set 46 = .ok (.iconst 1, 1) := by decide +kernel
theorem dX12_set_47 : decode cX12_set 47 = .ok (.if_icmp .ne 7, 3) := by decide +kernel
theorem dX12_set_50 : decode cX12_set 50 = .ok (.iconst 3, 1) := by decide +kernel
theorem dX12_set_51 : decode cX12_set 51 = .ok (.goto 14, 3) := by decide +kernel
theorem dX12_set_54 : decode cX12_set 54 = .ok (.iload_n 1, 1) := by decide +kernel
theorem dX12_set_55 : decode cX12_set 55 = .ok (.iconst 2, 1) := by decide +kernel
theorem dX12_set_56 : decode cX12_set 56 = .ok (.if_icmp .ne 7, 3) := by decide +kernel
theorem dX12_set_59 : decode cX12_set 59 = .ok (.iconst 1, 1) := by decide +kernel
theorem dX12_set_60 : decode cX12_set 60 = .ok (.goto 5, 3) := by decide +kernel
theorem dX12_set_63 : decode cX12_set 63 = .ok (.bipush 99, 2) := by decide +kernel
theorem dX12_set_65 : decode cX12_set 65 = .ok (.istore 4, 2) := by decide +kernel
theorem dX12_set_67 : decode cX12_set 67 = .ok (.iload_n 2, 1) := by decide +kernel
theorem dX12_set_68 : decode cX12_set 68 = .ok (.iload_n 3, 1) := by decide +kernel
theorem dX12_set_69 : decode cX12_set 69 = .ok (.iload 4, 2) := by decide +kernel
theorem dX12_set_71 : decode cX12_set 71 = .ok (.invokestatic 244, 3) := by decide +kernel
theorem dX12_set_74 : decode cX12_set 74 = .ok (.ifCond .ne 5, 3) := by decide +kernel
theorem dX12_set_77 : decode cX12_set 77 = .ok (.iconst 0, 1) := by decide +kernel
theorem dX12_set_78 : decode cX12_set 78 = .ok (.ireturn, 1) := by decide +kernel
theorem dX12_set_79 : decode cX12_set 79 = .ok (.aload_n 0, 1) := by decide +kernel
theorem dX12_set_80 : decode cX12_set 80 = .ok (.invokevirtual 323, 3) := by decide +kernel
theorem dX12_set_83 : decode cX12_set 83 = .ok (.aload_n 0, 1) := by decide +kernel
theorem dX12_set_84 : decode cX12_set 84 = .ok (.getfield 73, 3) := by decide +kernel
theorem dX12_set_87 : decode cX12_set 87 = .ok (.sipush 161, 3) := by decide +kernel
theorem dX12_set_90 : decode cX12_set 90 = .ok (.iload_n 1, 1) := by decide +kernel
theorem dX12_set_91 : decode cX12_set 91 = .ok (.iadd, 1) := by decide +kernel
theorem dX12_set_92 : decode cX12_set 92 = .ok (.iload_n 2, 1) := by decide +kernel
theorem dX12_set_93 : decode cX12_set 93 = .ok (.iastore, 1) := by decide +kernel
theorem dX12_set_94 : decode cX12_set 94 = .ok (.aload_n 0, 1) := by decide +kernel
theorem dX12_set_95 : decode cX12_set 95 = .ok (.invokevirtual 326, 3) := by decide +kernel
theorem dX12_set_98 : decode cX12_set 98 = .ok (.iconst 1, 1) := by decide +kernel
theorem dX12_set_99 : decode cX12_set 99 = .ok (.ireturn, 1) := by decide +kernel
theorem dX12_undo_0 : decode cX12_undo 0 = .ok (.aload_n 0, 1) := by decide +kernel
theorem dX12_undo_1 : decode cX12_undo 1 = .ok (.getfield 209, 3) := by decide +kernel
theorem dX12_undo_4 : decode cX12_undo 4 = .ok (.ifCond .ne 5, 3) := by decide +kernel
theorem dX12_undo_7 : decode cX12_undo 7 = .ok (.iconst 0, 1) := by decide +kernel
theorem dX12_undo_8 : decode cX12_undo 8 = .ok (.ireturn, 1) := by decide +kernel
theorem dX12_undo_9 : decode cX12_undo 9 = .ok (.aload_n 0, 1) := by decide +kernel
theorem dX12_undo_10 : decode cX12_undo 10 = .ok (.dup, 1) := by decide +kernel
theorem dX12_undo_11 : decode cX12_undo 11 = .ok (.getfield 209, 3) := by decide +kernel
theorem dX12_undo_14 : decode cX12_undo 14 = .ok (.iconst 1, 1) := by decide +kernel
theorem dX12_undo_15 : decode cX12_undo 15 = .ok (.isub, 1) := by decide +kernel
theorem dX12_undo_16 : decode cX12_undo 16 = .ok (.putfield 209, 3) := by decide +kernel
theorem dX12_undo_19 : decode cX12_undo 19 = .ok (.iconst 0, 1) := by decide +kernel
theorem dX12_undo_20 : decode cX12_undo 20 = .ok (.istore_n 1, 1) := by decide +kernel
theorem dX12_undo_21 : decode cX12_undo 21 = .ok (.iload_n 1, 1) := by decide +kernel
theorem dX12_undo_22 : decode cX12_undo 22 = .ok (.sipush 165, 3) := by decide +kernel
theorem dX12_undo_25 : decode cX12_undo 25 = .ok (.if_icmp .ge 30, 3) := by decide +kernel
theorem dX12_undo_28 : decode cX12_undo 28 = .ok (.aload_n 0, 1) := by decide +kernel
theorem dX12_undo_29 : decode cX12_undo 29 = .ok (.getfield 70, 3) := by decide +kernel
theorem dX12_undo_32 : decode cX12_undo 32 = .ok (.iload_n 1, 1) := by decide +kernel
theorem dX12_undo_33 : decode cX12_undo 33 = .ok (.aload_n 0, 1) := by decide +kernel
theorem dX12_undo_34 : decode cX12_undo 34 = .ok (.getfield 85, 3) := by decide +kernel
theorem dX12_undo_37 : decode cX12_undo 37 = .ok (.sipush 165, 3) := by decide +kernel
theorem dX12_undo_40 : decode cX12_undo 40 = .ok (.aload_n 0, 1) := by decide +kernel
theorem dX12_undo_41 : decode cX12_undo 41 = .ok (.getfield 209, 3) := by decide +kernel
theorem dX12_undo_44 : decode cX12_undo 44 = .ok (.imul, 1) := by decide +kernel
theorem dX12_undo_45 : decode cX12_undo 45 = .ok (.iload_n 1, 1) := by decide +kernel
theorem dX12_undo_46 : decode cX12_undo 46 = .ok (.iadd, 1) := by decide +kernel
theorem dX12_undo_47 : decode cX12_undo 47 = .ok (.iaload, 1) := by decide +kernel
theorem dX12_undo_48 : decode cX12_undo 48 = .ok (.iastore, 1) := by decide +kernel
theorem dX12_undo_49 : decode cX12_undo 49 = .ok (.iinc 1 1, 3) := by decide +kernel
theorem dX12_undo_52 : decode cX12_undo 52 = .ok (.goto (-31), 3) := by decide +kernel
theorem dX12_undo_55 : decode cX12_undo 55 = .ok (.iconst 1, 1) := by decide +kernel
theorem dX12_undo_56 : decode cX12_undo 56 = .ok (.ireturn, 1) := by decide +kernel
theorem dX12_sumOf_0 : decode cX12_sumOf 0 = .ok (.iconst 0, 1) := by decide +kernel
theorem dX12_sumOf_1 : decode cX12_sumOf 1 = .ok (.istore_n 3, 1) := by decide +kernel
theorem dX12_sumOf_2 : decode cX12_sumOf 2 = .ok (.iload_n 1, 1) := by decide +kernel
theorem dX12_sumOf_3 : decode cX12_sumOf 3 = .ok (.istore 4, 2) := by decide +kernel
theorem dX12_sumOf_5 : decode cX12_sumOf 5 = .ok (.iload 4, 2) := by decide +kernel
theorem dX12_sumOf_7 : decode cX12_sumOf 7 = .ok (.iload_n 1, 1) := by decide +kernel
theorem dX12_sumOf_8 : decode cX12_sumOf 8 = .ok (.iload_n 2, 1) := by decide +kernel
theorem dX12_sumOf_9 : decode cX12_sumOf 9 = .ok (.iadd, 1) := by decide +kernel
theorem dX12_sumOf_10 : decode cX12_sumOf 10 = .ok (.if_icmp .ge 21, 3) := by decide +kernel
theorem dX12_sumOf_13 : decode cX12_sumOf 13 = .ok (.iload_n 3, 1) := by decide +kernel
theorem dX12_sumOf_14 : decode cX12_sumOf 14 = .ok (.aload_n 0, 1) := by decide +kernel
theorem dX12_sumOf_15 : decode cX12_sumOf 15 = .ok (.getfield 70, 3) := by decide +kernel
theorem dX12_sumOf_18 : decode cX12_sumOf 18 = .ok (.iconst 1, 1) := by decide +kernel
theorem dX12_sumOf_19 : decode cX12_sumOf 19 = .ok (.iload 4, 2) := by decide +kernel
theorem dX12_sumOf_21 : decode cX12_sumOf 21 = .ok (.iadd, 1) := by decide +kernel
theorem dX12_sumOf_22 : decode cX12_sumOf 22 = .ok (.iaload, 1) := by decide +kernel
theorem dX12_sumOf_23 : decode cX12_sumOf 23 = .ok (.iadd, 1) := by decide +kernel
theorem dX12_sumOf_24 : decode cX12_sumOf 24 = .ok (.istore_n 3, 1) := by decide +kernel
theorem dX12_sumOf_25 : decode cX12_sumOf 25 = .ok (.iinc 4 1, 3) := by decide +kernel
theorem dX12_sumOf_28 : decode cX12_sumOf 28 = .ok (.goto (-23), 3) := by decide +kernel
theorem dX12_sumOf_31 : decode cX12_sumOf 31 = .ok (.iload_n 3, 1) := by decide +kernel
theorem dX12_sumOf_32 : decode cX12_sumOf 32 = .ok (.ireturn, 1) := by decide +kernel
theorem dX12_leastOf_0 : decode cX12_leastOf 0 = .ok (.aload_n 0, 1) := by decide +kernel
theorem dX12_leastOf_1 : decode cX12_leastOf 1 = .ok (.getfield 70, 3) := by decide +kernel
theorem dX12_leastOf_4 : decode cX12_leastOf 4 = .ok (.iconst 1, 1) := by decide +kernel
theorem dX12_leastOf_5 : decode cX12_leastOf 5 = .ok (.iload_n 1, 1) := by decide +kernel
theorem dX12_leastOf_6 : decode cX12_leastOf 6 = .ok (.iadd, 1) := by decide +kernel
theorem dX12_leastOf_7 : decode cX12_leastOf 7 = .ok (.iaload, 1) := by decide +kernel
theorem dX12_leastOf_8 : decode cX12_leastOf 8 = .ok (.istore_n 3, 1) := by decide +kernel
theorem dX12_leastOf_9 : decode cX12_leastOf 9 = .ok (.iload_n 1, 1) := by decide +kernel
theorem dX12_leastOf_10 : decode cX12_leastOf 10 = .ok (.istore 4, 2) := by decide +kernel
theorem dX12_leastOf_12 : decode cX12_leastOf 12 = .ok (.iload 4, 2) := by decide +kernel
theorem dX12_leastOf_14 : decode cX12_leastOf 14 = .ok (.iload_n 1, 1) := by decide +kernel
theorem dX12_leastOf_15 : decode cX12_leastOf 15 = .ok (.iload_n 2, 1) := by decide +kernel
theorem dX12_leastOf_16 : decode cX12_leastOf 16 = .ok (.iadd, 1) := by decide +kernel
theorem dX12_leastOf_17 : decode cX12_leastOf 17 = .ok (.if_icmp .ge 32, 3) := by decide +kernel
theorem dX12_leastOf_20 : decode cX12_leastOf 20 = .ok (.aload_n 0, 1) := by decide +kernel
theorem dX12_leastOf_21 : decode cX12_leastOf 21 = .ok (.getfield 70, 3) := by decide +kernel
theorem dX12_leastOf_24 : decode cX12_leastOf 24 = .ok (.iconst 1, 1) := by decide +kernel
theorem dX12_leastOf_25 : decode cX12_leastOf 25 = .ok (.iload 4, 2) := by decide +kernel
theorem dX12_leastOf_27 : decode cX12_leastOf 27 = .ok (.iadd, 1) := by decide +kernel
theorem dX12_leastOf_28 : decode cX12_leastOf 28 = .ok (.iaload, 1) := by decide +kernel
theorem dX12_leastOf_29 : decode cX12_leastOf 29 = .ok (.iload_n 3, 1) := by decide +kernel
theorem dX12_leastOf_30 : decode cX12_leastOf 30 = .ok (.if_icmp .ge 13, 3) := by decide +kernel
theorem dX12_leastOf_33 : decode cX12_leastOf 33 = .ok (.aload_n 0, 1) := by decide +kernel
theorem dX12_leastOf_34 : decode cX12_leastOf 34 = .ok (.getfield 70, 3) := by decide +kernel
theorem dX12_leastOf_37 : decode cX12_leastOf 37 = .ok (.iconst 1, 1) := by decide +kernel
theorem dX12_leastOf_38 : decode cX12_leastOf 38 = .ok (.iload 4, 2) := by decide +kernel
theorem dX12_leastOf_40 : decode cX12_leastOf 40 = .ok (.iadd, 1) := by decide +kernel
theorem dX12_leastOf_41 : decode cX12_leastOf 41 = .ok (.iaload, 1) := by decide +kernel
theorem dX12_leastOf_42 : decode cX12_leastOf 42 = .ok (.istore_n 3, 1) := by decide +kernel
theorem dX12_leastOf_43 : decode cX12_leastOf 43 = .ok (.iinc 4 1, 3) := by decide +kernel
theorem dX12_leastOf_46 : decode cX12_leastOf 46 = .ok (.goto (-34), 3) := by decide +kernel
theorem dX12_leastOf_49 : decode cX12_leastOf 49 = .ok (.iload_n 3, 1) := by decide +kernel
theorem dX12_leastOf_50 : decode cX12_leastOf 50 = .ok (.ireturn, 1) := by decide +kernel
theorem dX12_mostOf_0 : decode cX12_mostOf 0 = .ok (.aload_n 0, 1) := by decide +kernel
theorem dX12_mostOf_1 : decode cX12_mostOf 1 = .ok (.getfield 70, 3) := by decide +kernel
theorem dX12_mostOf_4 : decode cX12_mostOf 4 = .ok (.iconst 1, 1) := by decide +kernel
theorem dX12_mostOf_5 : decode cX12_mostOf 5 = .ok (.iload_n 1, 1) := by decide +kernel
theorem dX12_mostOf_6 : decode cX12_mostOf 6 = .ok (.iadd, 1) := by decide +kernel
theorem dX12_mostOf_7 : decode cX12_mostOf 7 = .ok (.iaload, 1) := by decide +kernel
theorem dX12_mostOf_8 : decode cX12_mostOf 8 = .ok (.istore_n 3, 1) := by decide +kernel
theorem dX12_mostOf_9 : decode cX12_mostOf 9 = .ok (.iload_n 1, 1) := by decide +kernel
theorem dX12_mostOf_10 : decode cX12_mostOf 10 = .ok (.istore 4, 2) := by decide +kernel
theorem dX12_mostOf_12 : decode cX12_mostOf 12 = .ok (.iload 4, 2) := by decide +kernel
theorem dX12_mostOf_14 : decode cX12_mostOf 14 = .ok (.iload_n 1, 1) := by decide +kernel
theorem dX12_mostOf_15 : decode cX12_mostOf 15 = .ok (.iload_n 2, 1) := by decide +kernel
theorem dX12_mostOf_16 : decode cX12_mostOf 16 = .ok (.iadd, 1) := by decide +kernel
theorem dX12_mostOf_17 : decode cX12_mostOf 17 = .ok (.if_icmp .ge 32, 3) := by decide +kernel
theorem dX12_mostOf_20 : decode cX12_mostOf 20 = .ok (.aload_n 0, 1) := by decide +kernel
theorem dX12_mostOf_21 : decode cX12_mostOf 21 = .ok (.getfield 70, 3) := by decide +kernel
theorem dX12_mostOf_24 : decode cX12_mostOf 24 = .ok (.iconst 1, 1) := by decide +kernel
theorem dX12_mostOf_25 : decode cX12_mostOf 25 = .ok (.iload 4, 2) := by decide +kernel
theorem dX12_mostOf_27 : decode cX12_mostOf 27 = .ok (.iadd, 1) := by decide +kernel
theorem dX12_mostOf_28 : decode cX12_mostOf 28 = .ok (.iaload, 1) := by decide +kernel
theorem dX12_mostOf_29 : decode cX12_mostOf 29 = .ok (.iload_n 3, 1) := by decide +kernel
theorem dX12_mostOf_30 : decode cX12_mostOf 30 = .ok (.if_icmp .le 13, 3) := by decide +kernel
theorem dX12_mostOf_33 : decode cX12_mostOf 33 = .ok (.aload_n 0, 1) := by decide +kernel
theorem dX12_mostOf_34 : decode cX12_mostOf 34 = .ok (.getfield 70, 3) := by decide +kernel
theorem dX12_mostOf_37 : decode cX12_mostOf 37 = .ok (.iconst 1, 1) := by decide +kernel
theorem dX12_mostOf_38 : decode cX12_mostOf 38 = .ok (.iload 4, 2) := by decide +kernel
theorem dX12_mostOf_40 : decode cX12_mostOf 40 = .ok (.iadd, 1) := by decide +kernel
theorem dX12_mostOf_41 : decode cX12_mostOf 41 = .ok (.iaload, 1) := by decide +kernel
theorem dX12_mostOf_42 : decode cX12_mostOf 42 = .ok (.istore_n 3, 1) := by decide +kernel
theorem dX12_mostOf_43 : decode cX12_mostOf 43 = .ok (.iinc 4 1, 3) := by decide +kernel
theorem dX12_mostOf_46 : decode cX12_mostOf 46 = .ok (.goto (-34), 3) := by decide +kernel
theorem dX12_mostOf_49 : decode cX12_mostOf 49 = .ok (.iload_n 3, 1) := by decide +kernel
theorem dX12_mostOf_50 : decode cX12_mostOf 50 = .ok (.ireturn, 1) := by decide +kernel
set_option maxRecDepth 20000 in
theorem ggX12_window_X12_isWindow : GoodIn wsX12_window wsX12_isWindow := goodIn_r _ [6, 7, 8, 24, 25, 26, 27, 28, 29, 30, 31, 32, 33, 34, 35, 36, 37, 38, 39, 40, 41, 42, 43, 44, 45, 46, 47, 48, 49, 50, 51, 52, 53, 54, 55, 56, 57, 58, 59, 60, 61, 62, 63, 64, 65, 66, 67, 68, 69, 70, 71, 72, 73, 74, 75, 76, 77, 78] (by decide +kernel) (by decide +kernel)
set_option maxRecDepth 20000 in
theorem gX12_window_X12_isWindow : GoodIn wsX12_window (wsV RX12 257 RX12 yX12_isWindow wsX12_isWindow) := goodIn_app (goodIn_of _ (by decide +kernel)) ggX12_window_X12_isWindow
set_option maxRecDepth 20000 in
theorem ggX12_window_X12_sumOf : GoodIn wsX12_window wsX12_sumOf := goodIn_r _ [12, 7, 24, 25, 26, 27, 28, 29, 30, 31, 32, 33, 34, 35, 36, 37, 38, 39, 40, 41, 42, 43, 44, 45, 46, 47, 48, 49, 50, 51, 52, 53, 54, 55, 56, 57, 58, 59, 60, 61, 62, 63, 64, 65, 66, 67, 68, 69, 70, 71, 72, 73, 74, 75, 76, 77, 78] (by decide +kernel) (by decide +kernel)
set_option maxRecDepth 20000 in
theorem gX12_window_X12_sumOf : GoodIn wsX12_window (wsV RX12 333 RX12 yX12_sumOf wsX12_sumOf) := goodIn_app (goodIn_of _ (by decide +kernel)) ggX12_window_X12_sumOf
set_option maxRecDepth 20000 in
theorem ggX12_window_X12_leastOf : GoodIn wsX12_window wsX12_leastOf := goodIn_r _ [16, 7, 24, 25, 26, 27, 28, 29, 30, 31, 32, 33, 34, 35, 36, 37, 38, 39, 40, 41, 42, 43, 44, 45, 46, 47, 48, 49, 50, 51, 52, 53, 54, 55, 56, 57, 58, 59, 60, 61, 62, 63, 64, 65, 66, 67, 68, 69, 70, 71, 72, 73, 74, 75, 76, 77, 78] (by decide +kernel) (by decide +kernel)
set_option maxRecDepth 20000 in
theorem gX12_window_X12_leastOf : GoodIn wsX12_window (wsV RX12 336 RX12 yX12_leastOf wsX12_leastOf) := goodIn_app (goodIn_of _ (by decide +kernel)) ggX12_window_X12_leastOf
set_option maxRecDepth 20000 in
theorem ggX12_window_X12_mostOf : GoodIn wsX12_window wsX12_mostOf := goodIn_r _ [20, 7, 24, 25, 26, 27, 28, 29, 30, 31, 32, 33, 34, 35, 36, 37, 38, 39, 40, 41, 42, 43, 44, 45, 46, 47, 48, 49, 50, 51, 52, 53, 54, 55, 56, 57, 58, 59, 60, 61, 62, 63, 64, 65, 66, 67, 68, 69, 70, 71, 72, 73, 74, 75, 76, 77, 78] (by decide +kernel) (by decide +kernel)
set_option maxRecDepth 20000 in
theorem gX12_window_X12_mostOf : GoodIn wsX12_window (wsV RX12 339 RX12 yX12_mostOf wsX12_mostOf) := goodIn_app (goodIn_of _ (by decide +kernel)) ggX12_window_X12_mostOf
set_option maxRecDepth 20000 in
theorem ggX12_window_X12_downBy : GoodIn wsX12_window wsX12_downBy := goodIn_r _ [23] (by decide +kernel) (by decide +kernel)
set_option maxRecDepth 20000 in
theorem gX12_window_X12_downBy : GoodIn wsX12_window (va_wsS RX12 261 yX12_downBy wsX12_downBy) := goodIn_app (goodIn_of _ (by decide +kernel)) ggX12_window_X12_downBy
theorem dX12_window_0 : decode cX12_window 0 = .ok (.aload_n 0, 1) := by decide +kernel
theorem dX12_window_1 : decode cX12_window 1 = .ok (.iload_n 1, 1) := by decide +kernel
theorem dX12_window_2 : decode cX12_window 2 = .ok (.iload_n 2, 1) := by decide +kernel
theorem dX12_window_3 : decode cX12_window 3 = .ok (.invokevirtual 257, 3) := by decide +kernel
theorem dX12_window_6 : decode cX12_window 6 = .ok (.ifCond .ne 7, 3) := by decide +kernel
theorem dX12_window_9 : decode cX12_window 9 = .ok (.ldc_w 332, 3) := by decide +kernel
theorem dX12_window_12 : decode cX12_window 12 = .ok (.ireturn, 1) := by decide +kernel
theorem dX12_window_13 : decode cX12_window 13 = .ok (.iload_n 3, 1) := by decide +kernel
theorem dX12_window_14 : decode cX12_window 14 = .ok (.tableswitch 62 0 3 #[30, 37, 44, 51], 30) := by decide +kernel
theorem dX12_window_44 : decode cX12_window 44 = .ok (.aload_n 0, 1) := by decide +kernel
theorem dX12_window_45 : decode cX12_window 45 = .ok (.iload_n 1, 1) := by decide +kernel
theorem dX12_window_46 : decode cX12_window 46 = .ok (.iload_n 2, 1) := by decide +kernel
theorem dX12_window_47 : decode cX12_window 47 = .ok (.invokevirtual 333, 3) := by decide +kernel
theorem dX12_window_50 : decode cX12_window 50 = .ok (.ireturn, 1) := by decide +kernel
theorem dX12_window_51 : decode cX12_window 51 = .ok (.aload_n 0, 1) := by decide +kernel
theorem dX12_window_52 : decode cX12_window 52 = .ok (.iload_n 1, 1) := by decide +kernel
theorem dX12_window_53 : decode cX12_window 53 = .ok (.iload_n 2, 1) := by decide +kernel
theorem dX12_window_54 : decode cX12_window 54 = .ok (.invokevirtual 336, 3) := by decide +kernel
theorem dX12_window_57 : decode cX12_window 57 = .ok (.ireturn, 1) := by decide +kernel
theorem dX12_window_58 : decode cX12_window 58 = .ok (.aload_n 0, 1) := by decide +kernel
theorem dX12_window_59 : decode cX12_window 59 = .ok (.iload_n 1, 1) := by decide +kernel
theorem dX12_window_60 : decode cX12_window 60 = .ok (.iload_n 2, 1) := by decide +kernel
theorem dX12_window_61 : decode cX12_window 61 = .ok (.invokevirtual 339, 3) := by decide +kernel
theorem dX12_window_64 : decode cX12_window 64 = .ok (.ireturn, 1) := by decide +kernel
theorem dX12_window_65 : decode cX12_window 65 = .ok (.aload_n 0, 1) := by decide +kernel
theorem dX12_window_66 : decode cX12_window 66 = .ok (.iload_n 1, 1) := by decide +kernel
theorem dX12_window_67 : decode cX12_window 67 = .ok (.iload_n 2, 1) := by decide +kernel
theorem dX12_window_68 : decode cX12_window 68 = .ok (.invokevirtual 333, 3) := by decide +kernel
theorem dX12_window_71 : decode cX12_window 71 = .ok (.iload_n 2, 1) := by decide +kernel
theorem dX12_window_72 : decode cX12_window 72 = .ok (.invokestatic 261, 3) := by decide +kernel
theorem dX12_window_75 : decode cX12_window 75 = .ok (.ireturn, 1) := by decide +kernel
theorem dX12_window_76 : decode cX12_window 76 = .ok (.ldc_w 332, 3) := by decide +kernel
theorem dX12_window_79 : decode cX12_window 79 = .ok (.ireturn, 1) := by decide +kernel
set_option maxRecDepth 20000 in
theorem ggX12_level_X12_in : GoodIn wsX12_level wsX12_in := goodIn_r _ [6] (by decide +kernel) (by decide +kernel)
set_option maxRecDepth 20000 in
theorem gX12_level_X12_in : GoodIn wsX12_level (va_wsS RX12 244 yX12_in wsX12_in) := goodIn_app (goodIn_of _ (by decide +kernel)) ggX12_level_X12_in
set_option maxRecDepth 20000 in
theorem ggX12_level_X12_isWindow : GoodIn wsX12_level wsX12_isWindow := goodIn_r _ [10, 11, 12, 29, 30, 31, 32, 33, 34, 35, 36, 37, 38, 39, 40, 41, 42, 43, 44, 45, 46, 47, 48, 49, 50, 51, 52, 53, 54, 55, 56, 57, 58, 59, 60, 61, 62, 63, 64, 65, 66, 67, 68, 69, 70, 71, 72, 73, 74, 75, 76, 77, 78, 79, 80, 81, 82, 83] (by decide +kernel) (by decide +kernel)
set_option maxRecDepth 20000 in
theorem gX12_level_X12_isWindow : GoodIn wsX12_level (wsV RX12 257 RX12 yX12_isWindow wsX12_isWindow) := goodIn_app (goodIn_of _ (by decide +kernel)) ggX12_level_X12_isWindow
set_option maxRecDepth 20000 in
theorem ggX12_level_X12_copies : GoodIn wsX12_level wsX12_copies := goodIn_r _ [16, 17, 11, 29, 30, 31, 32, 33, 34, 35, 36, 37, 38, 39, 40, 41, 42, 43, 44, 45, 46, 47, 48, 49, 50, 51, 52, 53, 54, 55, 56, 57, 58, 59, 60, 61, 62, 63, 64, 65, 66, 67, 68, 69, 70, 71, 72, 73, 74, 75, 76, 77, 78, 79, 80, 81, 82, 83] (by decide +kernel) (by decide +kernel)
set_option maxRecDepth 20000 in
theorem gX12_level_X12_copies : GoodIn wsX12_level (wsV RX12 323 RX12 yX12_copies wsX12_copies) := goodIn_app (goodIn_of _ (by decide +kernel)) ggX12_level_X12_copies
set_option maxRecDepth 20000 in
theorem ggX12_level_X12_laysWindow : GoodIn wsX12_level wsX12_laysWindow := goodIn_r _ [21, 2, 17, 22, 23, 24, 5, 25, 26, 27, 28, 29, 30, 31, 32, 33, 34, 35, 36, 37, 38, 39, 40, 41, 42, 43, 44, 45, 46, 47, 48, 49, 50, 51, 52, 53, 54, 55, 56, 57, 58, 59, 60, 61, 62, 63, 64, 65, 66, 67, 68, 69, 70, 71, 72, 73, 74, 75, 76, 77, 78, 79, 80, 81, 82, 83] (by decide +kernel) (by decide +kernel)
set_option maxRecDepth 20000 in
theorem gX12_level_X12_laysWindow : GoodIn wsX12_level (wsV RX12 270 RX12 yX12_laysWindow wsX12_laysWindow) := goodIn_app (goodIn_of _ (by decide +kernel)) ggX12_level_X12_laysWindow
theorem dX12_level_0 : decode cX12_level 0 = .ok (.iload_n 2, 1) := by decide +kernel
theorem dX12_level_1 : decode cX12_level 1 = .ok (.iconst 2, 1) := by decide +kernel
theorem dX12_level_2 : decode cX12_level 2 = .ok (.bipush 16, 2) := by decide +kernel
theorem dX12_level_4 : decode cX12_level 4 = .ok (.invokestatic 244, 3) := by decide +kernel
theorem dX12_level_7 : decode cX12_level 7 = .ok (.ifCond .eq 23, 3) := by decide +kernel
theorem dX12_level_10 : decode cX12_level 10 = .ok (.aload_n 0, 1) := by decide +kernel
theorem dX12_level_11 : decode cX12_level 11 = .ok (.iload_n 1, 1) := by decide +kernel
theorem dX12_level_12 : decode cX12_level 12 = .ok (.iload_n 2, 1) := by decide +kernel
theorem dX12_level_13 : decode cX12_level 13 = .ok (.invokevirtual 257, 3) := by decide +kernel
theorem dX12_level_16 : decode cX12_level 16 = .ok (.ifCond .eq 14, 3) := by decide +kernel
theorem dX12_level_19 : decode cX12_level 19 = .ok (.iload_n 3, 1) := by decide +kernel
theorem dX12_level_20 : decode cX12_level 20 = .ok (.iconst 0, 1) := by decide +kernel
theorem dX12_level_21 : decode cX12_level 21 = .ok (.iload_n 2, 1) := by decide +kernel
theorem dX12_level_22 : decode cX12_level 22 = .ok (.iconst 1, 1) := by decide +kernel
theorem dX12_level_23 : decode cX12_level 23 = .ok (.isub, 1) := by decide +kernel
theorem dX12_level_24 : decode cX12_level 24 = .ok (.invokestatic 244, 3) := by decide +kernel
theorem dX12_level_27 : decode cX12_level 27 = .ok (.ifCond .ne 7, 3) := by decide +kernel
theorem dX12_level_30 : decode cX12_level 30 = .ok (.ldc_w 332, 3) := by decide +kernel
theorem dX12_level_33 : decode cX12_level 33 = .ok (.ireturn, 1) := by decide +kernel
theorem dX12_level_34 : decode cX12_level 34 = .ok (.aload_n 0, 1) := by decide +kernel
theorem dX12_level_35 : decode cX12_level 35 = .ok (.invokevirtual 323, 3) := by decide +kernel
theorem dX12_level_38 : decode cX12_level 38 = .ok (.aload_n 0, 1) := by decide +kernel
theorem dX12_level_39 : decode cX12_level 39 = .ok (.iload_n 1, 1) := by decide +kernel
theorem dX12_level_40 : decode cX12_level 40 = .ok (.iload_n 2, 1) := by decide +kernel
theorem dX12_level_41 : decode cX12_level 41 = .ok (.invokevirtual 270, 3) := by decide +kernel
theorem dX12_level_44 : decode cX12_level 44 = .ok (.aload_n 0, 1) := by decide +kernel
theorem dX12_level_45 : decode cX12_level 45 = .ok (.getfield 76, 3) := by decide +kernel
theorem dX12_level_48 : decode cX12_level 48 = .ok (.iload_n 3, 1) := by decide +kernel
theorem dX12_level_49 : decode cX12_level 49 = .ok (.iaload, 1) := by decide +kernel
theorem dX12_level_50 : decode cX12_level 50 = .ok (.ireturn, 1) := by decide +kernel
set_option maxRecDepth 20000 in
theorem ggX12_flat_X12_in : GoodIn wsX12_flat wsX12_in := goodIn_r _ [5] (by decide +kernel) (by decide +kernel)
set_option maxRecDepth 20000 in
theorem gX12_flat_X12_in : GoodIn wsX12_flat (va_wsS RX12 244 yX12_in wsX12_in) := goodIn_app (goodIn_of _ (by decide +kernel)) ggX12_flat_X12_in
set_option maxRecDepth 20000 in
theorem ggX12_flat_X12_isWindow : GoodIn wsX12_flat wsX12_isWindow := goodIn_r _ [9, 1, 10, 19, 20, 21, 22, 23, 24, 25, 26, 27, 28, 29, 30, 31, 32, 33, 34, 35, 36, 37, 38, 39, 40, 41, 42, 43, 44, 45, 46, 47, 48, 49, 50, 51, 52, 53, 54, 55, 56, 57, 58, 59, 60, 61, 62, 63, 64, 65, 66, 67, 68, 69, 70, 71, 72, 73] (by decide +kernel) (by decide +kernel)
set_option maxRecDepth 20000 in
theorem gX12_flat_X12_isWindow : GoodIn wsX12_flat (wsV RX12 257 RX12 yX12_isWindow wsX12_isWindow) := goodIn_app (goodIn_of _ (by decide +kernel)) ggX12_flat_X12_isWindow
set_option maxRecDepth 20000 in
theorem ggX12_flat_X12_leastOf : GoodIn wsX12_flat wsX12_leastOf := goodIn_r _ [14, 1, 19, 20, 21, 22, 23, 24, 25, 26, 27, 28, 29, 30, 31, 32, 33, 34, 35, 36, 37, 38, 39, 40, 41, 42, 43, 44, 45, 46, 47, 48, 49, 50, 51, 52, 53, 54, 55, 56, 57, 58, 59, 60, 61, 62, 63, 64, 65, 66, 67, 68, 69, 70, 71, 72, 73] (by decide +kernel) (by decide +kernel)
set_option maxRecDepth 20000 in
theorem gX12_flat_X12_leastOf : GoodIn wsX12_flat (wsV RX12 336 RX12 yX12_leastOf wsX12_leastOf) := goodIn_app (goodIn_of _ (by decide +kernel)) ggX12_flat_X12_leastOf
set_option maxRecDepth 20000 in
theorem ggX12_flat_X12_mostOf : GoodIn wsX12_flat wsX12_mostOf := goodIn_r _ [18, 1, 19, 20, 21, 22, 23, 24, 25, 26, 27, 28, 29, 30, 31, 32, 33, 34, 35, 36, 37, 38, 39, 40, 41, 42, 43, 44, 45, 46, 47, 48, 49, 50, 51, 52, 53, 54, 55, 56, 57, 58, 59, 60, 61, 62, 63, 64, 65, 66, 67, 68, 69, 70, 71, 72, 73] (by decide +kernel) (by decide +kernel)
set_option maxRecDepth 20000 in
theorem gX12_flat_X12_mostOf : GoodIn wsX12_flat (wsV RX12 339 RX12 yX12_mostOf wsX12_mostOf) := goodIn_app (goodIn_of _ (by decide +kernel)) ggX12_flat_X12_mostOf
theorem dX12_flat_0 : decode cX12_flat 0 = .ok (.iload_n 1, 1) := by decide +kernel
theorem dX12_flat_1 : decode cX12_flat 1 = .ok (.iconst 1, 1) := by decide +kernel
theorem dX12_flat_2 : decode cX12_flat 2 = .ok (.sipush 160, 3) := by decide +kernel
theorem dX12_flat_5 : decode cX12_flat 5 = .ok (.invokestatic 244, 3) := by decide +kernel
theorem dX12_flat_8 : decode cX12_flat 8 = .ok (.ifCond .ne 5, 3) := by decide +kernel
theorem dX12_flat_11 : decode cX12_flat 11 = .ok (.iconst (-1), 1) := by decide +kernel
theorem dX12_flat_12 : decode cX12_flat 12 = .ok (.ireturn, 1) := by decide +kernel
theorem dX12_flat_13 : decode cX12_flat 13 = .ok (.iconst 0, 1) := by decide +kernel
theorem dX12_flat_14 : decode cX12_flat 14 = .ok (.istore_n 2, 1) := by decide +kernel
theorem dX12_flat_15 : decode cX12_flat 15 = .ok (.iconst 0, 1) := by decide +kernel
theorem dX12_flat_16 : decode cX12_flat 16 = .ok (.istore_n 3, 1) := by decide +kernel
theorem dX12_flat_17 : decode cX12_flat 17 = .ok (.iload_n 3, 1) := by decide +kernel
theorem dX12_flat_18 : decode cX12_flat 18 = .ok (.aload_n 0, 1) := by decide +kernel
theorem dX12_flat_19 : decode cX12_flat 19 = .ok (.getfield 70, 3) := by decide +kernel
theorem dX12_flat_22 : decode cX12_flat 22 = .ok (.iconst 0, 1) := by decide +kernel
theorem dX12_flat_23 : decode cX12_flat 23 = .ok (.iaload, 1) := by decide +kernel
theorem dX12_flat_24 : decode cX12_flat 24 = .ok (.if_icmp .ge 36, 3) := by decide +kernel
theorem dX12_flat_27 : decode cX12_flat 27 = .ok (.aload_n 0, 1) := by decide +kernel
theorem dX12_flat_28 : decode cX12_flat 28 = .ok (.iload_n 3, 1) := by decide +kernel
theorem dX12_flat_29 : decode cX12_flat 29 = .ok (.iload_n 1, 1) := by decide +kernel
theorem dX12_flat_30 : decode cX12_flat 30 = .ok (.invokevirtual 257, 3) := by decide +kernel
theorem dX12_flat_33 : decode cX12_flat 33 = .ok (.ifCond .eq 21, 3) := by decide +kernel
theorem dX12_flat_36 : decode cX12_flat 36 = .ok (.aload_n 0, 1) := by decide +kernel
theorem dX12_flat_37 : decode cX12_flat 37 = .ok (.iload_n 3, 1) := by decide +kernel
theorem dX12_flat_38 : decode cX12_flat 38 = .ok (.iload_n 1, 1) := by decide +kernel
theorem dX12_flat_39 : decode cX12_flat 39 = .ok (.invokevirtual 336, 3) := by decide +kernel
theorem dX12_flat_42 : decode cX12_flat 42 = .ok (.aload_n 0, 1) := by decide +kernel
theorem dX12_flat_43 : decode cX12_flat 43 = .ok (.iload_n 3, 1) := by decide +kernel
theorem dX12_flat_44 : decode cX12_flat 44 = .ok (.iload_n 1, 1) := by decide +kernel
theorem dX12_flat_45 : decode cX12_flat 45 = .ok (.invokevirtual 339, 3) := by decide +kernel
theorem dX12_flat_48 : decode cX12_flat 48 = .ok (.if_icmp .ne 6, 3) := by decide +kernel
theorem dX12_flat_51 : decode cX12_flat 51 = .ok (.iinc 2 1, 3) := by decide +kernel
theorem dX12_flat_54 : decode cX12_flat 54 = .ok (.iinc 3 1, 3) := by decide +kernel
theorem dX12_flat_57 : decode cX12_flat 57 = .ok (.goto (-40), 3) := by decide +kernel
theorem dX12_flat_60 : decode cX12_flat 60 = .ok (.iload_n 2, 1) := by decide +kernel
theorem dX12_flat_61 : decode cX12_flat 61 = .ok (.ireturn, 1) := by decide +kernel
set_option maxRecDepth 20000 in
theorem ggX12_whole_X12_in : GoodIn wsX12_whole wsX12_in := goodIn_r _ [5] (by decide +kernel) (by decide +kernel)
set_option maxRecDepth 20000 in
theorem gX12_whole_X12_in : GoodIn wsX12_whole (va_wsS RX12 244 yX12_in wsX12_in) := goodIn_app (goodIn_of _ (by decide +kernel)) ggX12_whole_X12_in
set_option maxRecDepth 20000 in
theorem ggX12_whole_X12_isThere : GoodIn wsX12_whole wsX12_isThere := goodIn_r _ [9, 1, 10, 11, 12, 13, 4, 14, 2, 3, 5, 15, 16, 17, 18, 19, 20, 21, 22, 23, 24, 25, 26, 27, 28, 29, 30, 31, 32, 33, 34, 35, 36, 37, 38, 39, 40, 41, 42, 43, 44, 45, 46, 47, 48, 49, 50, 51, 52, 53, 54, 55, 56, 57, 58, 59, 60, 61, 62, 63, 64, 65, 66, 67, 68, 69] (by decide +kernel) (by decide +kernel)
set_option maxRecDepth 20000 in
theorem gX12_whole_X12_isThere : GoodIn wsX12_whole (wsV RX12 320 RX12 yX12_isThere wsX12_isThere) := goodIn_app (goodIn_of _ (by decide +kernel)) ggX12_whole_X12_isThere
theorem dX12_whole_0 : decode cX12_whole 0 = .ok (.iload_n 1, 1) := by decide +kernel
theorem dX12_whole_1 : decode cX12_whole 1 = .ok (.iconst 0, 1) := by decide +kernel
theorem dX12_whole_2 : decode cX12_whole 2 = .ok (.iconst 1, 1) := by decide +kernel
theorem dX12_whole_3 : decode cX12_whole 3 = .ok (.invokestatic 244, 3) := by decide +kernel
theorem dX12_whole_6 : decode cX12_whole 6 = .ok (.ifCond .ne 5, 3) := by decide +kernel
theorem dX12_whole_9 : decode cX12_whole 9 = .ok (.iconst (-1), 1) := by decide +kernel
theorem dX12_whole_10 : decode cX12_whole 10 = .ok (.ireturn, 1) := by decide +kernel
theorem dX12_whole_11 : decode cX12_whole 11 = .ok (.bipush (-2), 2) := by decide +kernel
theorem dX12_whole_13 : decode cX12_whole 13 = .ok (.istore_n 2, 1) := by decide +kernel
theorem dX12_whole_14 : decode cX12_whole 14 = .ok (.bipush (-2), 2) := by decide +kernel
theorem dX12_whole_16 : decode cX12_whole 16 = .ok (.istore_n 3, 1) := by decide +kernel
theorem dX12_whole_17 : decode cX12_whole 17 = .ok (.iconst 0, 1) := by decide +kernel
theorem dX12_whole_18 : decode cX12_whole 18 = .ok (.istore 4, 2) := by decide +kernel
theorem dX12_whole_20 : decode cX12_whole 20 = .ok (.iload 4, 2) := by decide +kernel
theorem dX12_whole_22 : decode cX12_whole 22 = .ok (.aload_n 0, 1) := by decide +kernel
theorem dX12_whole_23 : decode cX12_whole 23 = .ok (.getfield 70, 3) := by decide +kernel
theorem dX12_whole_26 : decode cX12_whole 26 = .ok (.iconst 0, 1) := by decide +kernel
theorem dX12_whole_27 : decode cX12_whole 27 = .ok (.iaload, 1) := by decide +kernel
theorem dX12_whole_28 : decode cX12_whole 28 = .ok (.if_icmp .ge 50, 3) := by decide +kernel
theorem dX12_whole_31 : decode cX12_whole 31 = .ok (.iconst 0, 1) := by decide +kernel
theorem dX12_whole_32 : decode cX12_whole 32 = .ok (.istore 5, 2) := by decide +kernel
theorem dX12_whole_34 : decode cX12_whole 34 = .ok (.aload_n 0, 1) := by decide +kernel
theorem dX12_whole_35 : decode cX12_whole 35 = .ok (.iload 4, 2) := by decide +kernel
theorem dX12_whole_37 : decode cX12_whole 37 = .ok (.iload 5, 2) := by decide +kernel
theorem dX12_whole_39 : decode cX12_whole 39 = .ok (.iadd, 1) := by decide +kernel
theorem dX12_whole_40 : decode cX12_whole 40 = .ok (.invokevirtual 320, 3) := by decide +kernel
theorem dX12_whole_43 : decode cX12_whole 43 = .ok (.ifCond .eq 9, 3) := by decide +kernel
theorem dX12_whole_46 : decode cX12_whole 46 = .ok (.iinc 5 1, 3) := by decide +kernel
theorem dX12_whole_49 : decode cX12_whole 49 = .ok (.goto (-15), 3) := by decide +kernel
theorem dX12_whole_52 : decode cX12_whole 52 = .ok (.iload 5, 2) := by decide +kernel
theorem dX12_whole_54 : decode cX12_whole 54 = .ok (.ifCond .eq 18, 3) := by decide +kernel
theorem dX12_whole_57 : decode cX12_whole 57 = .ok (.iload 5, 2) := by decide +kernel
theorem dX12_whole_59 : decode cX12_whole 59 = .ok (.iload_n 3, 1) := by decide +kernel
theorem dX12_whole_60 : decode cX12_whole 60 = .ok (.if_icmp .gt 6, 3) := by decide +kernel
theorem dX12_whole_63 : decode cX12_whole 63 = .ok (.goto 9, 3) := by decide +kernel
theorem dX12_whole_66 : decode cX12_whole 66 = .ok (.iload 4, 2) := by decide +kernel
theorem dX12_whole_68 : decode cX12_whole 68 = .ok (.istore_n 2, 1) := by decide +kernel
theorem dX12_whole_69 : decode cX12_whole 69 = .ok (.iload 5, 2) := by decide +kernel
theorem dX12_whole_71 : decode cX12_whole 71 = .ok (.istore_n 3, 1) := by decide +kernel
theorem dX12_whole_72 : decode cX12_whole 72 = .ok (.iinc 4 1, 3) := by decide +kernel
theorem dX12_whole_75 : decode cX12_whole 75 = .ok (.goto (-55), 3) := by decide +kernel
theorem dX12_whole_78 : decode cX12_whole 78 = .ok (.iload_n 1, 1) := by decide +kernel
theorem dX12_whole_79 : decode cX12_whole 79 = .ok (.ifCond .ne 7, 3) := by decide +kernel
theorem dX12_whole_82 : decode cX12_whole 82 = .ok (.iload_n 2, 1) := by decide +kernel
theorem dX12_whole_83 : decode cX12_whole 83 = .ok (.goto 4, 3) := by decide +kernel
theorem dX12_whole_86 : decode cX12_whole 86 = .ok (.iload_n 3, 1) := by decide +kernel
theorem dX12_whole_87 : decode cX12_whole 87 = .ok (.ireturn, 1) := by decide +kernel
set_option maxRecDepth 20000 in
theorem ggX12_distance_X12_isOf : GoodIn wsX12_distance wsX12_isOf := goodIn_r _ [5, 6, 7, 8, 4, 9, 10, 11, 12, 13, 14, 15, 16, 17, 18, 19, 20, 21, 22, 23, 24, 25, 89, 90, 91, 92, 93, 94, 95, 96, 97, 98, 99, 100, 101, 102, 103, 104, 105, 106, 107, 108, 109, 110, 111, 112, 113, 114, 115, 116, 117, 118, 119, 120, 121, 122, 123, 124, 125, 126, 127, 128, 129, 130, 131, 132, 133, 134, 135, 136, 137, 138, 139, 140, 141, 142, 143] (by decide +kernel) (by decide +kernel)
set_option maxRecDepth 20000 in
theorem gX12_distance_X12_isOf : GoodIn wsX12_distance (wsV RX12 342 RX12 yX12_isOf wsX12_isOf) := goodIn_app (goodIn_of _ (by decide +kernel)) ggX12_distance_X12_isOf
set_option maxRecDepth 20000 in
theorem ggX12_distance_X12_copies : GoodIn wsX12_distance wsX12_copies := goodIn_r _ [29, 30, 24, 89, 90, 91, 92, 93, 94, 95, 96, 97, 98, 99, 100, 101, 102, 103, 104, 105, 106, 107, 108, 109, 110, 111, 112, 113, 114, 115, 116, 117, 118, 119, 120, 121, 122, 123, 124, 125, 126, 127, 128, 129, 130, 131, 132, 133, 134, 135, 136, 137, 138, 139, 140, 141, 142, 143] (by decide +kernel) (by decide +kernel)
set_option maxRecDepth 20000 in
theorem gX12_distance_X12_copies : GoodIn wsX12_distance (wsV RX12 323 RX12 yX12_copies wsX12_copies) := goodIn_app (goodIn_of _ (by decide +kernel)) ggX12_distance_X12_copies
set_option maxRecDepth 20000 in
theorem ggX12_distance_X12_distanceOf : GoodIn wsX12_distance wsX12_distanceOf := goodIn_r _ [34, 35, 36, 37, 38, 4, 39, 40, 15, 16, 17, 18, 19, 11, 41, 42, 43, 44, 45, 30, 46, 47, 48, 49, 50, 51, 52, 53, 54, 55, 56, 57, 58, 59, 60, 61, 62, 63, 64, 65, 66, 67, 68, 69, 70, 71, 72, 73, 74, 75, 76, 77, 12, 13, 14, 78, 79, 80, 81, 82, 83, 84, 85, 86, 87, 88, 89, 90, 91, 92, 93, 94, 95, 96, 97, 98, 99, 100, 101, 102, 103, 104, 105, 106, 107, 108, 109, 110, 111, 112, 113, 114, 115, 116, 117, 118, 119, 120, 121, 122, 123, 124, 125, 126, 127, 128, 129, 130, 131, 132, 133, 134, 135, 136, 137, 138, 139, 140, 141, 142, 143] (by decide +kernel) (by decide +kernel)
set_option maxRecDepth 20000 in
theorem gX12_distance_X12_distanceOf : GoodIn wsX12_distance (wsV RX12 345 RX12 yX12_distanceOf wsX12_distanceOf) := goodIn_app (goodIn_of _ (by decide +kernel)) ggX12_distance_X12_distanceOf
theorem dX12_distance_0 : decode cX12_distance 0 = .ok (.aload_n 0, 1) := by decide +kernel
theorem dX12_distance_1 : decode cX12_distance 1 = .ok (.iload_n 1, 1) := by decide +kernel
theorem dX12_distance_2 : decode cX12_distance 2 = .ok (.iload_n 2, 1) := by decide +kernel
theorem dX12_distance_3 : decode cX12_distance 3 = .ok (.invokevirtual 342, 3) := by decide +kernel
theorem dX12_distance_6 : decode cX12_distance 6 = .ok (.ifCond .ne 5, 3) := by decide +kernel
theorem dX12_distance_9 : decode cX12_distance 9 = .ok (.iconst (-1), 1) := by decide +kernel
theorem dX12_distance_10 : decode cX12_distance 10 = .ok (.ireturn, 1) := by decide +kernel
theorem dX12_distance_11 : decode cX12_distance 11 = .ok (.aload_n 0, 1) := by decide +kernel
theorem dX12_distance_12 : decode cX12_distance 12 = .ok (.invokevirtual 323, 3) := by decide +kernel
theorem dX12_distance_15 : decode cX12_distance 15 = .ok (.aload_n 0, 1) := by decide +kernel
theorem dX12_distance_16 : decode cX12_distance 16 = .ok (.iload_n 1, 1) := by decide +kernel
theorem dX12_distance_17 : decode cX12_distance 17 = .ok (.iload_n 2, 1) := by decide +kernel
theorem dX12_distance_18 : decode cX12_distance 18 = .ok (.invokevirtual 345, 3) := by decide +kernel
theorem dX12_distance_21 : decode cX12_distance 21 = .ok (.ireturn, 1) := by decide +kernel
set_option maxRecDepth 20000 in
theorem ggX12_bound_X12_isOf : GoodIn wsX12_bound wsX12_isOf := goodIn_r _ [5, 6, 7, 8, 4, 9, 10, 11, 12, 13, 14, 15, 16, 17, 18, 19, 20, 21, 22, 23, 24, 25, 80, 81, 82, 83, 84, 85, 86, 87, 88, 89, 90, 91, 92, 93, 94, 95, 96, 97, 98, 99, 100, 101, 102, 103, 104, 105, 106, 107, 108, 109, 110, 111, 112, 113, 114, 115, 116, 117, 118, 119, 120, 121, 122, 123, 124, 125, 126, 127, 128, 129, 130, 131, 132, 133, 134] (by decide +kernel) (by decide +kernel)
set_option maxRecDepth 20000 in
theorem gX12_bound_X12_isOf : GoodIn wsX12_bound (wsV RX12 342 RX12 yX12_isOf wsX12_isOf) := goodIn_app (goodIn_of _ (by decide +kernel)) ggX12_bound_X12_isOf
set_option maxRecDepth 20000 in
theorem ggX12_bound_X12_in : GoodIn wsX12_bound wsX12_in := goodIn_r _ [14] (by decide +kernel) (by decide +kernel)
set_option maxRecDepth 20000 in
theorem gX12_bound_X12_in : GoodIn wsX12_bound (va_wsS RX12 244 yX12_in wsX12_in) := goodIn_app (goodIn_of _ (by decide +kernel)) ggX12_bound_X12_in
set_option maxRecDepth 20000 in
theorem ggX12_bound_X12_copies : GoodIn wsX12_bound wsX12_copies := goodIn_r _ [29, 30, 24, 80, 81, 82, 83, 84, 85, 86, 87, 88, 89, 90, 91, 92, 93, 94, 95, 96, 97, 98, 99, 100, 101, 102, 103, 104, 105, 106, 107, 108, 109, 110, 111, 112, 113, 114, 115, 116, 117, 118, 119, 120, 121, 122, 123, 124, 125, 126, 127, 128, 129, 130, 131, 132, 133, 134] (by decide +kernel) (by decide +kernel)
set_option maxRecDepth 20000 in
theorem gX12_bound_X12_copies : GoodIn wsX12_bound (wsV RX12 323 RX12 yX12_copies wsX12_copies) := goodIn_app (goodIn_of _ (by decide +kernel)) ggX12_bound_X12_copies
set_option maxRecDepth 20000 in
theorem ggX12_bound_X12_laysBoth : GoodIn wsX12_bound wsX12_laysBoth := goodIn_r _ [34, 35, 15, 16, 17, 4, 18, 19, 11, 36, 37, 38, 39, 40, 30, 41, 42, 43, 44, 45, 46, 47, 48, 49, 50, 51, 52, 53, 54, 55, 56, 57, 80, 81, 82, 83, 84, 85, 86, 87, 88, 89, 90, 91, 92, 93, 94, 95, 96, 97, 98, 99, 100, 101, 102, 103, 104, 105, 106, 107, 108, 109, 110, 111, 112, 113, 114, 115, 116, 117, 118, 119, 120, 121, 122, 123, 124, 125, 126, 127, 128, 129, 130, 131, 132, 133, 134] (by decide +kernel) (by decide +kernel)
set_option maxRecDepth 20000 in
theorem gX12_bound_X12_laysBoth : GoodIn wsX12_bound (wsV RX12 301 RX12 yX12_laysBoth wsX12_laysBoth) := goodIn_app (goodIn_of _ (by decide +kernel)) ggX12_bound_X12_laysBoth
set_option maxRecDepth 20000 in
theorem ggX12_bound_X12_endsOf : GoodIn wsX12_bound wsX12_endsOf := goodIn_r _ [61, 40, 52, 35, 62, 63, 64, 4, 65, 30, 80, 81, 82, 83, 84, 85, 86, 87, 88, 89, 90, 91, 92, 93, 94, 95, 96, 97, 98, 99, 100, 101, 102, 103, 104, 105, 106, 107, 108, 109, 110, 111, 112, 113, 114, 115, 116, 117, 118, 119, 120, 121, 122, 123, 124, 125, 126, 127, 128, 129, 130, 131, 132, 133, 134] (by decide +kernel) (by decide +kernel)
set_option maxRecDepth 20000 in
theorem gX12_bound_X12_endsOf : GoodIn wsX12_bound (wsV RX12 314 RX12 yX12_endsOf wsX12_endsOf) := goodIn_app (goodIn_of _ (by decide +kernel)) ggX12_bound_X12_endsOf
set_option maxRecDepth 20000 in
theorem ggX12_bound_X12_overOf : GoodIn wsX12_bound wsX12_overOf := goodIn_r _ [69, 35, 70, 71, 40, 52, 72, 73, 74, 4, 75, 30, 12, 13, 14, 62, 63, 64, 65, 80, 81, 82, 83, 84, 85, 86, 87, 88, 89, 90, 91, 92, 93, 94, 95, 96, 97, 98, 99, 100, 101, 102, 103, 104, 105, 106, 107, 108, 109, 110, 111, 112, 113, 114, 115, 116, 117, 118, 119, 120, 121, 122, 123, 124, 125, 126, 127, 128, 129, 130, 131, 132, 133, 134] (by decide +kernel) (by decide +kernel)
set_option maxRecDepth 20000 in
theorem gX12_bound_X12_overOf : GoodIn wsX12_bound (wsV RX12 308 RX12 yX12_overOf wsX12_overOf) := goodIn_app (goodIn_of _ (by decide +kernel)) ggX12_bound_X12_overOf
set_option maxRecDepth 20000 in
theorem ggX12_bound_X12_backOf : GoodIn wsX12_bound wsX12_backOf := goodIn_r _ [79, 35, 48, 49, 50, 4, 51, 40, 52, 66, 67, 68, 69, 70, 71, 72, 73, 74, 75, 30, 12, 13, 14, 62, 63, 64, 65, 80, 81, 82, 83, 84, 85, 86, 87, 88, 89, 90, 91, 92, 93, 94, 95, 96, 97, 98, 99, 100, 101, 102, 103, 104, 105, 106, 107, 108, 109, 110, 111, 112, 113, 114, 115, 116, 117, 118, 119, 120, 121, 122, 123, 124, 125, 126, 127, 128, 129, 130, 131, 132, 133, 134] (by decide +kernel) (by decide +kernel)
set_option maxRecDepth 20000 in
theorem gX12_bound_X12_backOf : GoodIn wsX12_bound (wsV RX12 317 RX12 yX12_backOf wsX12_backOf) := goodIn_app (goodIn_of _ (by decide +kernel)) ggX12_bound_X12_backOf
theorem dX12_bound_0 : decode cX12_bound 0 = .ok (.aload_n 0, 1) := by decide +kernel
theorem dX12_bound_1 : decode cX12_bound 1 = .ok (.iload_n 1, 1) := by decide +kernel
theorem dX12_bound_2 : decode cX12_bound 2 = .ok (.iload_n 2, 1) := by decide +kernel
theorem dX12_bound_3 : decode cX12_bound 3 = .ok (.invokevirtual 342, 3) := by decide +kernel
theorem dX12_bound_6 : decode cX12_bound 6 = .ok (.ifCond .eq 12, 3) := by decide +kernel
theorem dX12_bound_9 : decode cX12_bound 9 = .ok (.iload_n 3, 1) := by decide +kernel
theorem dX12_bound_10 : decode cX12_bound 10 = .ok (.iconst 0, 1) := by decide +kernel
theorem dX12_bound_11 : decode cX12_bound 11 = .ok (.iconst 2, 1) := by decide +kernel
theorem dX12_bound_12 : decode cX12_bound 12 = .ok (.invokestatic 244, 3) := by decide +kernel
theorem dX12_bound_15 : decode cX12_bound 15 = .ok (.ifCond .ne 5, 3) := by decide +kernel
theorem dX12_bound_18 : decode cX12_bound 18 = .ok (.iconst (-1), 1) := by decide +kernel
theorem dX12_bound_19 : decode cX12_bound 19 = .ok (.ireturn, 1) := by decide +kernel
theorem dX12_bound_20 : decode cX12_bound 20 = .ok (.aload_n 0, 1) := by decide +kernel
theorem dX12_bound_21 : decode cX12_bound 21 = .ok (.invokevirtual 323, 3) := by decide +kernel
theorem dX12_bound_24 : decode cX12_bound 24 = .ok (.aload_n 0, 1) := by decide +kernel
theorem dX12_bound_25 : decode cX12_bound 25 = .ok (.iload_n 1, 1) := by decide +kernel
theorem dX12_bound_26 : decode cX12_bound 26 = .ok (.iload_n 2, 1) := by decide +kernel
theorem dX12_bound_27 : decode cX12_bound 27 = .ok (.invokevirtual 301, 3) := by decide +kernel
theorem dX12_bound_30 : decode cX12_bound 30 = .ok (.iload_n 3, 1) := by decide +kernel
theorem dX12_bound_31 : decode cX12_bound 31 = .ok (.ifCond .ne 10, 3) := by decide +kernel
theorem dX12_bound_34 : decode cX12_bound 34 = .ok (.aload_n 0, 1) := by decide +kernel
theorem dX12_bound_35 : decode cX12_bound 35 = .ok (.invokevirtual 314, 3) := by decide +kernel
theorem dX12_bound_38 : decode cX12_bound 38 = .ok (.goto 19, 3) := by decide +kernel
theorem dX12_bound_41 : decode cX12_bound 41 = .ok (.iload_n 3, 1) := by decide +kernel
theorem dX12_bound_42 : decode cX12_bound 42 = .ok (.iconst 1, 1) := by decide +kernel
theorem dX12_bound_43 : decode cX12_bound 43 = .ok (.if_icmp .ne 10, 3) := by decide +kernel
theorem dX12_bound_46 : decode cX12_bound 46 = .ok (.aload_n 0, 1) := by decide +kernel
theorem dX12_bound_47 : decode cX12_bound 47 = .ok (.invokevirtual 308, 3) := by decide +kernel
theorem dX12_bound_50 : decode cX12_bound 50 = .ok (.goto 7, 3) := by decide +kernel
theorem dX12_bound_53 : decode cX12_bound 53 = .ok (.aload_n 0, 1) := by decide +kernel
theorem dX12_bound_54 : decode cX12_bound 54 = .ok (.invokevirtual 317, 3) := by decide +kernel
theorem dX12_bound_57 : decode cX12_bound 57 = .ok (.ireturn, 1) := by decide +kernel
set_option maxRecDepth 20000 in
theorem ggX12_look_X12_isOf : GoodIn wsX12_look wsX12_isOf := goodIn_r _ [7, 8, 9, 10, 6, 11, 12, 13, 14, 15, 16, 17, 18, 19, 20, 21, 22, 23, 24, 25, 26, 27, 103, 104, 105, 106, 107, 108, 109, 110, 111, 112, 113, 114, 115, 116, 117, 118, 119, 120, 121, 122, 123, 124, 125, 126, 127, 128, 129, 130, 131, 132, 133, 134, 135, 136, 137, 138, 139, 140, 141, 142, 143, 144, 145, 146, 147, 148, 149, 150, 151, 152, 153, 154, 155, 156, 157] (by decide +kernel) (by decide +kernel)
set_option maxRecDepth 20000 in
theorem gX12_look_X12_isOf : GoodIn wsX12_look (wsV RX12 342 RX12 yX12_isOf wsX12_isOf) := goodIn_app (goodIn_of _ (by decide +kernel)) ggX12_look_X12_isOf
set_option maxRecDepth 20000 in
theorem ggX12_look_X12_in : GoodIn wsX12_look wsX12_in := goodIn_r _ [16] (by decide +kernel) (by decide +kernel)
set_option maxRecDepth 20000 in
theorem gX12_look_X12_in : GoodIn wsX12_look (va_wsS RX12 244 yX12_in wsX12_in) := goodIn_app (goodIn_of _ (by decide +kernel)) ggX12_look_X12_in
set_option maxRecDepth 20000 in
theorem ggX12_look_X12_copies : GoodIn wsX12_look wsX12_copies := goodIn_r _ [31, 32, 26, 103, 104, 105, 106, 107, 108, 109, 110, 111, 112, 113, 114, 115, 116, 117, 118, 119, 120, 121, 122, 123, 124, 125, 126, 127, 128, 129, 130, 131, 132, 133, 134, 135, 136, 137, 138, 139, 140, 141, 142, 143, 144, 145, 146, 147, 148, 149, 150, 151, 152, 153, 154, 155, 156, 157] (by decide +kernel) (by decide +kernel)
set_option maxRecDepth 20000 in
theorem gX12_look_X12_copies : GoodIn wsX12_look (wsV RX12 323 RX12 yX12_copies wsX12_copies) := goodIn_app (goodIn_of _ (by decide +kernel)) ggX12_look_X12_copies
set_option maxRecDepth 20000 in
theorem ggX12_look_X12_passes : GoodIn wsX12_look wsX12_passes := goodIn_r _ [36, 1, 2, 37, 38, 39, 40, 41, 6, 42, 43, 17, 18, 19, 20, 21, 13, 44, 45, 46, 47, 48, 32, 49, 50, 51, 52, 53, 54, 55, 56, 57, 58, 59, 60, 61, 62, 63, 64, 65, 66, 67, 68, 69, 70, 71, 72, 73, 74, 75, 76, 77, 78, 79, 80, 81, 82, 14, 15, 16, 83, 84, 85, 86, 87, 88, 89, 90, 91, 92, 93, 94, 95, 96, 97, 98, 99, 100, 101, 102, 103, 104, 105, 106, 107, 108, 109, 110, 111, 112, 113, 114, 115, 116, 117, 118, 119, 120, 121, 122, 123, 124, 125, 126, 127, 128, 129, 130, 131, 132, 133, 134, 135, 136, 137, 138, 139, 140, 141, 142, 143, 144, 145, 146, 147, 148, 149, 150, 151, 152, 153, 154, 155, 156, 157] (by decide +kernel) (by decide +kernel)
set_option maxRecDepth 20000 in
theorem gX12_look_X12_passes : GoodIn wsX12_look (wsV RX12 348 RX12 yX12_passes wsX12_passes) := goodIn_app (goodIn_of _ (by decide +kernel)) ggX12_look_X12_passes
theorem dX12_look_0 : decode cX12_look 0 = .ok (.aload_n 0, 1) := by decide +kernel
theorem dX12_look_1 : decode cX12_look 1 = .ok (.iload_n 1, 1) := by decide +kernel
theorem dX12_look_2 : decode cX12_look 2 = .ok (.iload_n 2, 1) := by decide +kernel
theorem dX12_look_3 : decode cX12_look 3 = .ok (.invokevirtual 342, 3) := by decide +kernel
theorem dX12_look_6 : decode cX12_look 6 = .ok (.ifCond .eq 17, 3) := by decide +kernel
theorem dX12_look_9 : decode cX12_look 9 = .ok (.iload_n 3, 1) := by decide +kernel
theorem dX12_look_10 : decode cX12_look 10 = .ok (.ifCond .lt 13, 3) := by decide +kernel
theorem dX12_look_13 : decode cX12_look 13 = .ok (.iload 4, 2) := by decide +kernel
theorem dX12_look_15 : decode cX12_look 15 = .ok (.iconst 0, 1) := by decide +kernel
theorem dX12_look_16 : decode cX12_look 16 = .ok (.iconst 2, 1) := by decide +kernel
theorem dX12_look_17 : decode cX12_look 17 = .ok (.invokestatic 244, 3) := by decide +kernel
theorem dX12_look_20 : decode cX12_look 20 = .ok (.ifCond .ne 5, 3) := by decide +kernel
theorem dX12_look_23 : decode cX12_look 23 = .ok (.iconst (-1), 1) := by decide +kernel
theorem dX12_look_24 : decode cX12_look 24 = .ok (.ireturn, 1) := by decide +kernel
theorem dX12_look_25 : decode cX12_look 25 = .ok (.aload_n 0, 1) := by decide +kernel
theorem dX12_look_26 : decode cX12_look 26 = .ok (.invokevirtual 323, 3) := by decide +kernel
theorem dX12_look_29 : decode cX12_look 29 = .ok (.aload_n 0, 1) := by decide +kernel
theorem dX12_look_30 : decode cX12_look 30 = .ok (.iload_n 1, 1) := by decide +kernel
theorem dX12_look_31 : decode cX12_look 31 = .ok (.iload_n 2, 1) := by decide +kernel
theorem dX12_look_32 : decode cX12_look 32 = .ok (.iload_n 3, 1) := by decide +kernel
theorem dX12_look_33 : decode cX12_look 33 = .ok (.invokevirtual 348, 3) := by decide +kernel
theorem dX12_look_36 : decode cX12_look 36 = .ok (.istore 5, 2) := by decide +kernel
theorem dX12_look_38 : decode cX12_look 38 = .ok (.iload 4, 2) := by decide +kernel
theorem dX12_look_40 : decode cX12_look 40 = .ok (.ifCond .ne 8, 3) := by decide +kernel
theorem dX12_look_43 : decode cX12_look 43 = .ok (.iload 5, 2) := by decide +kernel
theorem dX12_look_45 : decode cX12_look 45 = .ok (.goto 32, 3) := by decide +kernel
theorem dX12_look_48 : decode cX12_look 48 = .ok (.iload 4, 2) := by decide +kernel
theorem dX12_look_50 : decode cX12_look 50 = .ok (.iconst 1, 1) := by decide +kernel
theorem dX12_look_51 : decode cX12_look 51 = .ok (.if_icmp .ne 10, 3) := by decide +kernel
theorem dX12_look_54 : decode cX12_look 54 = .ok (.aload_n 0, 1) := by decide +kernel
theorem dX12_look_55 : decode cX12_look 55 = .ok (.getfield 292, 3) := by decide +kernel
theorem dX12_look_58 : decode cX12_look 58 = .ok (.goto 19, 3) := by decide +kernel
theorem dX12_look_61 : decode cX12_look 61 = .ok (.aload_n 0, 1) := by decide +kernel
theorem dX12_look_62 : decode cX12_look 62 = .ok (.getfield 295, 3) := by decide +kernel
theorem dX12_look_65 : decode cX12_look 65 = .ok (.ifCond .lt 10, 3) := by decide +kernel
theorem dX12_look_68 : decode cX12_look 68 = .ok (.aload_n 0, 1) := by decide +kernel
theorem dX12_look_69 : decode cX12_look 69 = .ok (.getfield 295, 3) := by decide +kernel
theorem dX12_look_72 : decode cX12_look 72 = .ok (.goto 5, 3) := by decide +kernel
theorem dX12_look_75 : decode cX12_look 75 = .ok (.bipush (-2), 2) := by decide +kernel
theorem dX12_look_77 : decode cX12_look 77 = .ok (.ireturn, 1) := by decide +kernel
set_option maxRecDepth 20000 in
theorem ggX12_alike_X12_isQuery : GoodIn wsX12_alike wsX12_isQuery := goodIn_r _ [7, 8, 9, 10, 11, 6, 12, 68, 69, 70, 71, 72, 73, 74, 75, 76, 77, 78, 79, 80, 81, 82, 83, 84, 85, 86, 87, 88, 89, 90, 91, 92, 93, 94, 95, 96, 97, 98, 99, 100, 101, 102, 103, 104, 105, 106, 107, 108, 109, 110, 111, 112, 113, 114, 115, 116, 117, 118, 119, 120, 121, 122] (by decide +kernel) (by decide +kernel)
set_option maxRecDepth 20000 in
theorem gX12_alike_X12_isQuery : GoodIn wsX12_alike (wsV RX12 251 RX12 yX12_isQuery wsX12_isQuery) := goodIn_app (goodIn_of _ (by decide +kernel)) ggX12_alike_X12_isQuery
set_option maxRecDepth 20000 in
theorem ggX12_alike_X12_wideOf : GoodIn wsX12_alike wsX12_wideOf := goodIn_r _ [16, 17, 9, 68, 69, 70, 71, 72, 73, 74, 75, 76, 77, 78, 79, 80, 81, 82, 83, 84, 85, 86, 87, 88, 89, 90, 91, 92, 93, 94, 95, 96, 97, 98, 99, 100, 101, 102, 103, 104, 105, 106, 107, 108, 109, 110, 111, 112, 113, 114, 115, 116, 117, 118, 119, 120, 121, 122] (by decide +kernel) (by decide +kernel)
set_option maxRecDepth 20000 in
theorem gX12_alike_X12_wideOf : GoodIn wsX12_alike (wsV RX12 254 RX12 yX12_wideOf wsX12_wideOf) := goodIn_app (goodIn_of _ (by decide +kernel)) ggX12_alike_X12_wideOf
set_option maxRecDepth 20000 in
theorem ggX12_alike_X12_copies : GoodIn wsX12_alike wsX12_copies := goodIn_r _ [21, 22, 23, 68, 69, 70, 71, 72, 73, 74, 75, 76, 77, 78, 79, 80, 81, 82, 83, 84, 85, 86, 87, 88, 89, 90, 91, 92, 93, 94, 95, 96, 97, 98, 99, 100, 101, 102, 103, 104, 105, 106, 107, 108, 109, 110, 111, 112, 113, 114, 115, 116, 117, 118, 119, 120, 121, 122] (by decide +kernel) (by decide +kernel)
set_option maxRecDepth 20000 in
theorem gX12_alike_X12_copies : GoodIn wsX12_alike (wsV RX12 323 RX12 yX12_copies wsX12_copies) := goodIn_app (goodIn_of _ (by decide +kernel)) ggX12_alike_X12_copies
set_option maxRecDepth 20000 in
theorem ggX12_alike_X12_laysQuery : GoodIn wsX12_alike wsX12_laysQuery := goodIn_r _ [27, 28, 29, 9, 13, 14, 15, 6, 16, 17, 30, 31, 32, 33, 22, 34, 35, 36, 68, 69, 70, 71, 72, 73, 74, 75, 76, 77, 78, 79, 80, 81, 82, 83, 84, 85, 86, 87, 88, 89, 90, 91, 92, 93, 94, 95, 96, 97, 98, 99, 100, 101, 102, 103, 104, 105, 106, 107, 108, 109, 110, 111, 112, 113, 114, 115, 116, 117, 118, 119, 120, 121, 122] (by decide +kernel) (by decide +kernel)
set_option maxRecDepth 20000 in
theorem gX12_alike_X12_laysQuery : GoodIn wsX12_alike (wsV RX12 276 RX12 yX12_laysQuery wsX12_laysQuery) := goodIn_app (goodIn_of _ (by decide +kernel)) ggX12_alike_X12_laysQuery
set_option maxRecDepth 20000 in
theorem ggX12_alike_X12_changesBoth : GoodIn wsX12_alike wsX12_changesBoth := goodIn_r _ [40, 28, 41, 68, 69, 70, 71, 72, 73, 74, 75, 76, 77, 78, 79, 80, 81, 82, 83, 84, 85, 86, 87, 88, 89, 90, 91, 92, 93, 94, 95, 96, 97, 98, 99, 100, 101, 102, 103, 104, 105, 106, 107, 108, 109, 110, 111, 112, 113, 114, 115, 116, 117, 118, 119, 120, 121, 122] (by decide +kernel) (by decide +kernel)
set_option maxRecDepth 20000 in
theorem gX12_alike_X12_changesBoth : GoodIn wsX12_alike (wsV RX12 273 RX12 yX12_changesBoth wsX12_changesBoth) := goodIn_app (goodIn_of _ (by decide +kernel)) ggX12_alike_X12_changesBoth
set_option maxRecDepth 20000 in
theorem ggX12_alike_X12_laysTable : GoodIn wsX12_alike wsX12_laysTable := goodIn_r _ [45, 46, 47, 1, 2, 48, 49, 50, 6, 51, 52, 28, 41, 53, 54, 55, 56, 22, 10, 11, 12, 57, 58, 59, 60, 61, 62, 63, 64, 65, 66, 67, 68, 69, 70, 71, 72, 73, 74, 75, 76, 77, 78, 79, 80, 81, 82, 83, 84, 85, 86, 87, 88, 89, 90, 91, 92, 93, 94, 95, 96, 97, 98, 99, 100, 101, 102, 103, 104, 105, 106, 107, 108, 109, 110, 111, 112, 113, 114, 115, 116, 117, 118, 119, 120, 121, 122] (by decide +kernel) (by decide +kernel)
set_option maxRecDepth 20000 in
theorem gX12_alike_X12_laysTable : GoodIn wsX12_alike (wsV RX12 304 RX12 yX12_laysTable wsX12_laysTable) := goodIn_app (goodIn_of _ (by decide +kernel)) ggX12_alike_X12_laysTable
theorem dX12_alike_0 : decode cX12_alike 0 = .ok (.aload_n 0, 1) := by decide +kernel
theorem dX12_alike_1 : decode cX12_alike 1 = .ok (.iload_n 1, 1) := by decide +kernel
theorem dX12_alike_2 : decode cX12_alike 2 = .ok (.invokevirtual 251, 3) := by decide +kernel
theorem dX12_alike_5 : decode cX12_alike 5 = .ok (.ifCond .eq 11, 3) := by decide +kernel
theorem dX12_alike_8 : decode cX12_alike 8 = .ok (.aload_n 0, 1) := by decide +kernel
theorem dX12_alike_9 : decode cX12_alike 9 = .ok (.iload_n 2, 1) := by decide +kernel
theorem dX12_alike_10 : decode cX12_alike 10 = .ok (.invokevirtual 251, 3) := by decide +kernel
theorem dX12_alike_13 : decode cX12_alike 13 = .ok (.ifCond .ne 5, 3) := by decide +kernel
theorem dX12_alike_16 : decode cX12_alike 16 = .ok (.iconst (-1), 1) := by decide +kernel
theorem dX12_alike_17 : decode cX12_alike 17 = .ok (.ireturn, 1) := by decide +kernel
theorem dX12_alike_18 : decode cX12_alike 18 = .ok (.aload_n 0, 1) := by decide +kernel
theorem dX12_alike_19 : decode cX12_alike 19 = .ok (.iload_n 1, 1) := by decide +kernel
theorem dX12_alike_20 : decode cX12_alike 20 = .ok (.invokevirtual 254, 3) := by decide +kernel
theorem dX12_alike_23 : decode cX12_alike 23 = .ok (.aload_n 0, 1) := by decide +kernel
theorem dX12_alike_24 : decode cX12_alike 24 = .ok (.iload_n 2, 1) := by decide +kernel
theorem dX12_alike_25 : decode cX12_alike 25 = .ok (.invokevirtual 254, 3) := by decide +kernel
theorem dX12_alike_28 : decode cX12_alike 28 = .ok (.if_icmp .eq 6, 3) := by decide +kernel
theorem dX12_alike_31 : decode cX12_alike 31 = .ok (.bipush (-2), 2) := by decide +kernel
theorem dX12_alike_33 : decode cX12_alike 33 = .ok (.ireturn, 1) := by decide +kernel
theorem dX12_alike_34 : decode cX12_alike 34 = .ok (.aload_n 0, 1) := by decide +kernel
theorem dX12_alike_35 : decode cX12_alike 35 = .ok (.invokevirtual 323, 3) := by decide +kernel
theorem dX12_alike_38 : decode cX12_alike 38 = .ok (.aload_n 0, 1) := by decide +kernel
theorem dX12_alike_39 : decode cX12_alike 39 = .ok (.aload_n 0, 1) := by decide +kernel
theorem dX12_alike_40 : decode cX12_alike 40 = .ok (.iload_n 1, 1) := by decide +kernel
theorem dX12_alike_41 : decode cX12_alike 41 = .ok (.invokevirtual 254, 3) := by decide +kernel
theorem dX12_alike_44 : decode cX12_alike 44 = .ok (.putfield 267, 3) := by decide +kernel
theorem dX12_alike_47 : decode cX12_alike 47 = .ok (.aload_n 0, 1) := by decide +kernel
theorem dX12_alike_48 : decode cX12_alike 48 = .ok (.iload_n 2, 1) := by decide +kernel
theorem dX12_alike_49 : decode cX12_alike 49 = .ok (.invokevirtual 276, 3) := by decide +kernel
theorem dX12_alike_52 : decode cX12_alike 52 = .ok (.aload_n 0, 1) := by decide +kernel
theorem dX12_alike_53 : decode cX12_alike 53 = .ok (.aload_n 0, 1) := by decide +kernel
theorem dX12_alike_54 : decode cX12_alike 54 = .ok (.getfield 267, 3) := by decide +kernel
theorem dX12_alike_57 : decode cX12_alike 57 = .ok (.invokevirtual 273, 3) := by decide +kernel
theorem dX12_alike_60 : decode cX12_alike 60 = .ok (.aload_n 0, 1) := by decide +kernel
theorem dX12_alike_61 : decode cX12_alike 61 = .ok (.iload_n 1, 1) := by decide +kernel
theorem dX12_alike_62 : decode cX12_alike 62 = .ok (.invokevirtual 276, 3) := by decide +kernel
theorem dX12_alike_65 : decode cX12_alike 65 = .ok (.aload_n 0, 1) := by decide +kernel
theorem dX12_alike_66 : decode cX12_alike 66 = .ok (.ldc_w 282, 3) := by decide +kernel
theorem dX12_alike_69 : decode cX12_alike 69 = .ok (.invokevirtual 304, 3) := by decide +kernel
theorem dX12_alike_72 : decode cX12_alike 72 = .ok (.ireturn, 1) := by decide +kernel
set_option maxRecDepth 20000 in
theorem ggX12_fillsWay_X12_atTable : GoodIn wsX12_fillsWay wsX12_atTable := goodIn_r _ [8, 9, 10, 11, 12, 13, 7, 14, 1, 15, 16, 17, 18, 19, 20, 21, 22, 23, 24, 25, 26, 27, 28, 29, 30, 31, 32, 33, 34, 35, 36, 37, 38, 39, 40, 41, 42, 43, 44, 45, 46, 47, 48, 49, 50, 51, 52, 53, 54, 55, 56, 57, 58, 59, 60, 61, 62, 63, 64, 65, 66, 67, 68, 69, 70, 71, 72, 73] (by decide +kernel) (by decide +kernel)
set_option maxRecDepth 20000 in
theorem gX12_fillsWay_X12_atTable : GoodIn wsX12_fillsWay (wsV RX12 283 RX12 yX12_atTable wsX12_atTable) := goodIn_app (goodIn_of _ (by decide +kernel)) ggX12_fillsWay_X12_atTable
theorem dX12_fillsWay_0 : decode cX12_fillsWay 0 = .ok (.aload_n 0, 1) := by decide +kernel
theorem dX12_fillsWay_1 : decode cX12_fillsWay 1 = .ok (.getfield 267, 3) := by decide +kernel
theorem dX12_fillsWay_4 : decode cX12_fillsWay 4 = .ok (.iconst 1, 1) := by decide +kernel
theorem dX12_fillsWay_5 : decode cX12_fillsWay 5 = .ok (.isub, 1) := by decide +kernel
theorem dX12_fillsWay_6 : decode cX12_fillsWay 6 = .ok (.istore_n 1, 1) := by decide +kernel
theorem dX12_fillsWay_7 : decode cX12_fillsWay 7 = .ok (.aload_n 0, 1) := by decide +kernel
theorem dX12_fillsWay_8 : decode cX12_fillsWay 8 = .ok (.getfield 267, 3) := by decide +kernel
theorem dX12_fillsWay_11 : decode cX12_fillsWay 11 = .ok (.iconst 1, 1) := by decide +kernel
theorem dX12_fillsWay_12 : decode cX12_fillsWay 12 = .ok (.isub, 1) := by decide +kernel
theorem dX12_fillsWay_13 : decode cX12_fillsWay 13 = .ok (.istore_n 2, 1) := by decide +kernel
theorem dX12_fillsWay_14 : decode cX12_fillsWay 14 = .ok (.aload_n 0, 1) := by decide +kernel
theorem dX12_fillsWay_15 : decode cX12_fillsWay 15 = .ok (.iconst 0, 1) := by decide +kernel
theorem dX12_fillsWay_16 : decode cX12_fillsWay 16 = .ok (.putfield 351, 3) := by decide +kernel
theorem dX12_fillsWay_19 : decode cX12_fillsWay 19 = .ok (.iload_n 1, 1) := by decide +kernel
theorem dX12_fillsWay_20 : decode cX12_fillsWay 20 = .ok (.ifCond .lt 125, 3) := by decide +kernel
theorem dX12_fillsWay_23 : decode cX12_fillsWay 23 = .ok (.iload_n 2, 1) := by decide +kernel
theorem dX12_fillsWay_24 : decode cX12_fillsWay 24 = .ok (.ifCond .lt 121, 3) := by decide +kernel
theorem dX12_fillsWay_27 : decode cX12_fillsWay 27 = .ok (.aload_n 0, 1) := by decide +kernel
theorem dX12_fillsWay_28 : decode cX12_fillsWay 28 = .ok (.getfield 88, 3) := by decide +kernel
theorem dX12_fillsWay_31 : decode cX12_fillsWay 31 = .ok (.aload_n 0, 1) := by decide +kernel
theorem dX12_fillsWay_32 : decode cX12_fillsWay 32 = .ok (.getfield 351, 3) := by decide +kernel
theorem dX12_fillsWay_35 : decode cX12_fillsWay 35 = .ok (.bipush 100, 2) := by decide +kernel
theorem dX12_fillsWay_37 : decode cX12_fillsWay 37 = .ok (.iload_n 1, 1) := by decide +kernel
theorem dX12_fillsWay_38 : decode cX12_fillsWay 38 = .ok (.imul, 1) := by decide +kernel
theorem dX12_fillsWay_39 : decode cX12_fillsWay 39 = .ok (.iload_n 2, 1) := by decide +kernel
theorem dX12_fillsWay_40 : decode cX12_fillsWay 40 = .ok (.iadd, 1) := by decide +kernel
theorem dX12_fillsWay_41 : decode cX12_fillsWay 41 = .ok (.iastore, 1) := by decide +kernel
theorem dX12_fillsWay_42 : decode cX12_fillsWay 42 = .ok (.aload_n 0, 1) := by decide +kernel
theorem dX12_fillsWay_43 : decode cX12_fillsWay 43 = .ok (.dup, 1) := by decide +kernel
theorem dX12_fillsWay_44 : decode cX12_fillsWay 44 = .ok (.getfield 351, 3) := by decide +kernel
theorem dX12_fillsWay_47 : decode cX12_fillsWay 47 = .ok (.iconst 1, 1) := by decide +kernel
theorem dX12_fillsWay_48 : decode cX12_fillsWay 48 = .ok (.iadd, 1) := by decide +kernel
theorem dX12_fillsWay_49 : decode cX12_fillsWay 49 = .ok (.putfield 351, 3) := by decide +kernel
theorem dX12_fillsWay_52 : decode cX12_fillsWay 52 = .ok (.aload_n 0, 1) := by decide +kernel
theorem dX12_fillsWay_53 : decode cX12_fillsWay 53 = .ok (.iload_n 1, 1) := by decide +kernel
theorem dX12_fillsWay_54 : decode cX12_fillsWay 54 = .ok (.iconst 1, 1) := by decide +kernel
theorem dX12_fillsWay_55 : decode cX12_fillsWay 55 = .ok (.isub, 1) := by decide +kernel
theorem dX12_fillsWay_56 : decode cX12_fillsWay 56 = .ok (.iload_n 2, 1) := by decide +kernel
theorem dX12_fillsWay_57 : decode cX12_fillsWay 57 = .ok (.iconst 1, 1) := by decide +kernel
theorem dX12_fillsWay_58 : decode cX12_fillsWay 58 = .ok (.isub, 1) := by decide +kernel
theorem dX12_fillsWay_59 : decode cX12_fillsWay 59 = .ok (.invokevirtual 283, 3) := by decide +kernel
theorem dX12_fillsWay_62 : decode cX12_fillsWay 62 = .ok (.istore_n 3, 1) := by decide +kernel
theorem dX12_fillsWay_63 : decode cX12_fillsWay 63 = .ok (.aload_n 0, 1) := by decide +kernel
theorem dX12_fillsWay_64 : decode cX12_fillsWay 64 = .ok (.iload_n 1, 1) := by decide +kernel
theorem dX12_fillsWay_65 : decode cX12_fillsWay 65 = .ok (.iconst 1, 1) := by decide +kernel
theorem dX12_fillsWay_66 : decode cX12_fillsWay 66 = .ok (.isub, 1) := by decide +kernel
theorem dX12_fillsWay_67 : decode cX12_fillsWay 67 = .ok (.iload_n 2, 1) := by decide +kernel
theorem dX12_fillsWay_68 : decode cX12_fillsWay 68 = .ok (.invokevirtual 283, 3) := by decide +kernel
theorem dX12_fillsWay_71 : decode cX12_fillsWay 71 = .ok (.istore 4, 2) := by decide +kernel
theorem dX12_fillsWay_73 : decode cX12_fillsWay 73 = .ok (.aload_n 0, 1) := by decide +kernel
theorem dX12_fillsWay_74 : decode cX12_fillsWay 74 = .ok (.iload_n 1, 1) := by decide +kernel
theorem dX12_fillsWay_75 : decode cX12_fillsWay 75 = .ok (.iload_n 2, 1) := by decide +kernel
theorem dX12_fillsWay_76 : decode cX12_fillsWay 76 = .ok (.iconst 1, 1) := by decide +kernel
theorem dX12_fillsWay_77 : decode cX12_fillsWay 77 = .ok (.isub, 1) := by decide +kernel
theorem dX12_fillsWay_78 : decode cX12_fillsWay 78 = .ok (.invokevirtual 283, 3) := by decide +kernel
theorem dX12_fillsWay_81 : decode cX12_fillsWay 81 = .ok (.istore 5, 2) := by decide +kernel
theorem dX12_fillsWay_83 : decode cX12_fillsWay 83 = .ok (.iload_n 3, 1) := by decide +kernel
theorem dX12_fillsWay_84 : decode cX12_fillsWay 84 = .ok (.iload 4, 2) := by decide +kernel
theorem dX12_fillsWay_86 : decode cX12_fillsWay 86 = .ok (.if_icmp .gt 13, 3) := by decide +kernel
theorem dX12_fillsWay_89 : decode cX12_fillsWay 89 = .ok (.iload_n 3, 1) := by decide +kernel
theorem dX12_fillsWay_90 : decode cX12_fillsWay 90 = .ok (.iload 5, 2) := by decide +kernel
theorem dX12_fillsWay_92 : decode cX12_fillsWay 92 = .ok (.if_icmp .gt 7, 3) := by decide +kernel
theorem dX12_fillsWay_95 : decode cX12_fillsWay 95 = .ok (.iconst 1, 1) := by decide +kernel
theorem dX12_fillsWay_96 : decode cX12_fillsWay 96 = .ok (.goto 4, 3) := by decide +kernel
theorem dX12_fillsWay_99 : decode cX12_fillsWay 99 = .ok (.iconst 0, 1) := by decide +kernel
theorem dX12_fillsWay_100 : decode cX12_fillsWay 100 = .ok (.istore 6, 2) := by decide +kernel
theorem dX12_fillsWay_102 : decode cX12_fillsWay 102 = .ok (.iload 4, 2) := by decide +kernel
theorem dX12_fillsWay_104 : decode cX12_fillsWay 104 = .ok (.iload 5, 2) := by decide +kernel
theorem dX12_fillsWay_106 : decode cX12_fillsWay 106 = .ok (.if_icmp .gt 7, 3) := by decide +kernel
theorem dX12_fillsWay_109 : decode cX12_fillsWay 109 = .ok (.iconst 1, 1) := by decide +kernel
theorem dX12_fillsWay_110 : decode cX12_fillsWay 110 = .ok (.goto 4, 3) := by decide +kernel
theorem dX12_fillsWay_113 : decode cX12_fillsWay 113 = .ok (.iconst 0, 1) := by decide +kernel
theorem dX12_fillsWay_114 : decode cX12_fillsWay 114 = .ok (.istore 7, 2) := by decide +kernel
theorem dX12_fillsWay_116 : decode cX12_fillsWay 116 = .ok (.iload 6, 2) := by decide +kernel
theorem dX12_fillsWay_118 : decode cX12_fillsWay 118 = .ok (.ifCond .ne 8, 3) := by decide +kernel
theorem dX12_fillsWay_121 : decode cX12_fillsWay 121 = .ok (.iload 7, 2) := by decide +kernel
theorem dX12_fillsWay_123 : decode cX12_fillsWay 123 = .ok (.ifCond .eq 6, 3) := by decide +kernel
theorem dX12_fillsWay_126 : decode cX12_fillsWay 126 = .ok (.iinc 1 (-1), 3) := by decide +kernel
theorem dX12_fillsWay_129 : decode cX12_fillsWay 129 = .ok (.iload 6, 2) := by decide +kernel
theorem dX12_fillsWay_131 : decode cX12_fillsWay 131 = .ok (.ifCond .ne 8, 3) := by decide +kernel
theorem dX12_fillsWay_134 : decode cX12_fillsWay 134 = .ok (.iload 7, 2) := by decide +kernel
theorem dX12_fillsWay_136 : decode cX12_fillsWay 136 = .ok (.ifCond .ne 6, 3) := by decide +kernel
theorem dX12_fillsWay_139 : decode cX12_fillsWay 139 = .ok (.iinc 2 (-1), 3) := by decide +kernel
theorem dX12_fillsWay_142 : decode cX12_fillsWay 142 = .ok (.goto (-123), 3) := by decide +kernel
theorem dX12_fillsWay_145 : decode cX12_fillsWay 145 = .ok (.return_, 1) := by decide +kernel
set_option maxRecDepth 20000 in
theorem ggX12_way_X12_isOf : GoodIn wsX12_way wsX12_isOf := goodIn_r _ [7, 8, 9, 10, 6, 11, 12, 13, 14, 15, 16, 17, 18, 19, 20, 21, 22, 23, 24, 25, 26, 27, 95, 96, 97, 98, 99, 100, 101, 102, 103, 104, 105, 106, 107, 108, 109, 110, 111, 112, 113, 114, 115, 116, 117, 118, 119, 120, 121, 122, 123, 124, 125, 126, 127, 128, 129, 130, 131, 132, 133, 134, 135, 136, 137, 138, 139, 140, 141, 142, 143, 144, 145, 146, 147, 148, 149] (by decide +kernel) (by decide +kernel)
set_option maxRecDepth 20000 in
theorem gX12_way_X12_isOf : GoodIn wsX12_way (wsV RX12 342 RX12 yX12_isOf wsX12_isOf) := goodIn_app (goodIn_of _ (by decide +kernel)) ggX12_way_X12_isOf
set_option maxRecDepth 20000 in
theorem ggX12_way_X12_copies : GoodIn wsX12_way wsX12_copies := goodIn_r _ [31, 32, 26, 95, 96, 97, 98, 99, 100, 101, 102, 103, 104, 105, 106, 107, 108, 109, 110, 111, 112, 113, 114, 115, 116, 117, 118, 119, 120, 121, 122, 123, 124, 125, 126, 127, 128, 129, 130, 131, 132, 133, 134, 135, 136, 137, 138, 139, 140, 141, 142, 143, 144, 145, 146, 147, 148, 149] (by decide +kernel) (by decide +kernel)
set_option maxRecDepth 20000 in
theorem gX12_way_X12_copies : GoodIn wsX12_way (wsV RX12 323 RX12 yX12_copies wsX12_copies) := goodIn_app (goodIn_of _ (by decide +kernel)) ggX12_way_X12_copies
set_option maxRecDepth 20000 in
theorem ggX12_way_X12_distanceOf : GoodIn wsX12_way wsX12_distanceOf := goodIn_r _ [36, 37, 38, 39, 40, 6, 41, 42, 17, 18, 19, 20, 21, 13, 43, 44, 45, 46, 47, 32, 48, 49, 50, 51, 52, 53, 54, 55, 56, 57, 58, 59, 60, 61, 62, 63, 64, 65, 66, 67, 68, 69, 70, 71, 72, 73, 74, 75, 76, 77, 78, 79, 14, 15, 16, 80, 81, 82, 83, 84, 85, 86, 87, 88, 89, 90, 95, 96, 97, 98, 99, 100, 101, 102, 103, 104, 105, 106, 107, 108, 109, 110, 111, 112, 113, 114, 115, 116, 117, 118, 119, 120, 121, 122, 123, 124, 125, 126, 127, 128, 129, 130, 131, 132, 133, 134, 135, 136, 137, 138, 139, 140, 141, 142, 143, 144, 145, 146, 147, 148, 149] (by decide +kernel) (by decide +kernel)
set_option maxRecDepth 20000 in
theorem gX12_way_X12_distanceOf : GoodIn wsX12_way (wsV RX12 345 RX12 yX12_distanceOf wsX12_distanceOf) := goodIn_app (goodIn_of _ (by decide +kernel)) ggX12_way_X12_distanceOf
set_option maxRecDepth 20000 in
theorem ggX12_way_X12_fillsWay : GoodIn wsX12_way wsX12_fillsWay := goodIn_r _ [94, 42, 1, 2, 80, 81, 82, 6, 83, 37, 75, 76, 77, 78, 79, 32, 14, 15, 16, 95, 96, 97, 98, 99, 100, 101, 102, 103, 104, 105, 106, 107, 108, 109, 110, 111, 112, 113, 114, 115, 116, 117, 118, 119, 120, 121, 122, 123, 124, 125, 126, 127, 128, 129, 130, 131, 132, 133, 134, 135, 136, 137, 138, 139, 140, 141, 142, 143, 144, 145, 146, 147, 148, 149] (by decide +kernel) (by decide +kernel)
set_option maxRecDepth 20000 in
theorem gX12_way_X12_fillsWay : GoodIn wsX12_way (wsV RX12 354 RX12 yX12_fillsWay wsX12_fillsWay) := goodIn_app (goodIn_of _ (by decide +kernel)) ggX12_way_X12_fillsWay
theorem dX12_way_0 : decode cX12_way 0 = .ok (.aload_n 0, 1) := by decide +kernel
theorem dX12_way_1 : decode cX12_way 1 = .ok (.iload_n 1, 1) := by decide +kernel
theorem dX12_way_2 : decode cX12_way 2 = .ok (.iload_n 2, 1) := by decide +kernel
theorem dX12_way_3 : decode cX12_way 3 = .ok (.invokevirtual 342, 3) := by decide +kernel
theorem dX12_way_6 : decode cX12_way 6 = .ok (.ifCond .eq 8, 3) := by decide +kernel
theorem dX12_way_9 : decode cX12_way 9 = .ok (.iload_n 3, 1) := by decide +kernel
theorem dX12_way_10 : decode cX12_way 10 = .ok (.iconst (-1), 1) := by decide +kernel
theorem dX12_way_11 : decode cX12_way 11 = .ok (.if_icmp .ge 5, 3) := by decide +kernel
theorem dX12_way_14 : decode cX12_way 14 = .ok (.iconst (-1), 1) := by decide +kernel
theorem dX12_way_15 : decode cX12_way 15 = .ok (.ireturn, 1) := by decide +kernel
theorem dX12_way_16 : decode cX12_way 16 = .ok (.aload_n 0, 1) := by decide +kernel
theorem dX12_way_17 : decode cX12_way 17 = .ok (.invokevirtual 323, 3) := by decide +kernel
theorem dX12_way_20 : decode cX12_way 20 = .ok (.aload_n 0, 1) := by decide +kernel
theorem dX12_way_21 : decode cX12_way 21 = .ok (.iload_n 1, 1) := by decide +kernel
theorem dX12_way_22 : decode cX12_way 22 = .ok (.iload_n 2, 1) := by decide +kernel
theorem dX12_way_23 : decode cX12_way 23 = .ok (.invokevirtual 345, 3) := by decide +kernel
theorem dX12_way_26 : decode cX12_way 26 = .ok (.pop, 1) := by decide +kernel
theorem dX12_way_27 : decode cX12_way 27 = .ok (.aload_n 0, 1) := by decide +kernel
theorem dX12_way_28 : decode cX12_way 28 = .ok (.invokevirtual 354, 3) := by decide +kernel
theorem dX12_way_31 : decode cX12_way 31 = .ok (.iload_n 3, 1) := by decide +kernel
theorem dX12_way_32 : decode cX12_way 32 = .ok (.iconst (-1), 1) := by decide +kernel
theorem dX12_way_33 : decode cX12_way 33 = .ok (.if_icmp .ne 10, 3) := by decide +kernel
theorem dX12_way_36 : decode cX12_way 36 = .ok (.aload_n 0, 1) := by decide +kernel
theorem dX12_way_37 : decode cX12_way 37 = .ok (.getfield 351, 3) := by decide +kernel
theorem dX12_way_40 : decode cX12_way 40 = .ok (.goto 28, 3) := by decide +kernel
theorem dX12_way_43 : decode cX12_way 43 = .ok (.iload_n 3, 1) := by decide +kernel
theorem dX12_way_44 : decode cX12_way 44 = .ok (.aload_n 0, 1) := by decide +kernel
theorem dX12_way_45 : decode cX12_way 45 = .ok (.getfield 351, 3) := by decide +kernel
theorem dX12_way_48 : decode cX12_way 48 = .ok (.if_icmp .ge 19, 3) := by decide +kernel
theorem dX12_way_51 : decode cX12_way 51 = .ok (.aload_n 0, 1) := by decide +kernel
theorem dX12_way_52 : decode cX12_way 52 = .ok (.getfield 88, 3) := by decide +kernel
theorem dX12_way_55 : decode cX12_way 55 = .ok (.aload_n 0, 1) := by decide +kernel
theorem dX12_way_56 : decode cX12_way 56 = .ok (.getfield 351, 3) := by decide +kernel
theorem dX12_way_59 : decode cX12_way 59 = .ok (.iconst 1, 1) := by decide +kernel
theorem dX12_way_60 : decode cX12_way 60 = .ok (.isub, 1) := by decide +kernel
theorem dX12_way_61 : decode cX12_way 61 = .ok (.iload_n 3, 1) := by decide +kernel
theorem dX12_way_62 : decode cX12_way 62 = .ok (.isub, 1) := by decide +kernel
theorem dX12_way_63 : decode cX12_way 63 = .ok (.iaload, 1) := by decide +kernel
theorem dX12_way_64 : decode cX12_way 64 = .ok (.goto 4, 3) := by decide +kernel
theorem dX12_way_67 : decode cX12_way 67 = .ok (.iconst (-1), 1) := by decide +kernel
theorem dX12_way_68 : decode cX12_way 68 = .ok (.ireturn, 1) := by decide +kernel
set_option maxRecDepth 20000 in
theorem ggX12_lean_X12_isOf : GoodIn wsX12_lean wsX12_isOf := goodIn_r _ [7, 8, 9, 10, 6, 11, 12, 13, 14, 15, 16, 17, 18, 19, 20, 21, 22, 23, 24, 25, 26, 27, 95, 96, 97, 98, 99, 100, 101, 102, 103, 104, 105, 106, 107, 108, 109, 110, 111, 112, 113, 114, 115, 116, 117, 118, 119, 120, 121, 122, 123, 124, 125, 126, 127, 128, 129, 130, 131, 132, 133, 134, 135, 136, 137, 138, 139, 140, 141, 142, 143, 144, 145, 146, 147, 148, 149] (by decide +kernel) (by decide +kernel)
set_option maxRecDepth 20000 in
theorem gX12_lean_X12_isOf : GoodIn wsX12_lean (wsV RX12 342 RX12 yX12_isOf wsX12_isOf) := goodIn_app (goodIn_of _ (by decide +kernel)) ggX12_lean_X12_isOf
set_option maxRecDepth 20000 in
theorem ggX12_lean_X12_in : GoodIn wsX12_lean wsX12_in := goodIn_r _ [16] (by decide +kernel) (by decide +kernel)
set_option maxRecDepth 20000 in
theorem gX12_lean_X12_in : GoodIn wsX12_lean (va_wsS RX12 244 yX12_in wsX12_in) := goodIn_app (goodIn_of _ (by decide +kernel)) ggX12_lean_X12_in
set_option maxRecDepth 20000 in
theorem ggX12_lean_X12_copies : GoodIn wsX12_lean wsX12_copies := goodIn_r _ [31, 32, 26, 95, 96, 97, 98, 99, 100, 101, 102, 103, 104, 105, 106, 107, 108, 109, 110, 111, 112, 113, 114, 115, 116, 117, 118, 119, 120, 121, 122, 123, 124, 125, 126, 127, 128, 129, 130, 131, 132, 133, 134, 135, 136, 137, 138, 139, 140, 141, 142, 143, 144, 145, 146, 147, 148, 149] (by decide +kernel) (by decide +kernel)
set_option maxRecDepth 20000 in
theorem gX12_lean_X12_copies : GoodIn wsX12_lean (wsV RX12 323 RX12 yX12_copies wsX12_copies) := goodIn_app (goodIn_of _ (by decide +kernel)) ggX12_lean_X12_copies
set_option maxRecDepth 20000 in
theorem ggX12_lean_X12_distanceOf : GoodIn wsX12_lean wsX12_distanceOf := goodIn_r _ [36, 37, 38, 39, 40, 6, 41, 42, 17, 18, 19, 20, 21, 13, 43, 44, 45, 46, 47, 32, 48, 49, 50, 51, 52, 53, 54, 55, 56, 57, 58, 59, 60, 61, 62, 63, 64, 65, 66, 67, 68, 69, 70, 71, 72, 73, 74, 75, 76, 77, 78, 79, 14, 15, 16, 80, 81, 82, 83, 84, 85, 86, 87, 88, 89, 90, 95, 96, 97, 98, 99, 100, 101, 102, 103, 104, 105, 106, 107, 108, 109, 110, 111, 112, 113, 114, 115, 116, 117, 118, 119, 120, 121, 122, 123, 124, 125, 126, 127, 128, 129, 130, 131, 132, 133, 134, 135, 136, 137, 138, 139, 140, 141, 142, 143, 144, 145, 146, 147, 148, 149] (by decide +kernel) (by decide +kernel)
set_option maxRecDepth 20000 in
theorem gX12_lean_X12_distanceOf : GoodIn wsX12_lean (wsV RX12 345 RX12 yX12_distanceOf wsX12_distanceOf) := goodIn_app (goodIn_of _ (by decide +kernel)) ggX12_lean_X12_distanceOf
set_option maxRecDepth 20000 in
theorem ggX12_lean_X12_fillsWay : GoodIn wsX12_lean wsX12_fillsWay := goodIn_r _ [94, 42, 1, 2, 80, 81, 82, 6, 83, 37, 75, 76, 77, 78, 79, 32, 14, 15, 16, 95, 96, 97, 98, 99, 100, 101, 102, 103, 104, 105, 106, 107, 108, 109, 110, 111, 112, 113, 114, 115, 116, 117, 118, 119, 120, 121, 122, 123, 124, 125, 126, 127, 128, 129, 130, 131, 132, 133, 134, 135, 136, 137, 138, 139, 140, 141, 142, 143, 144, 145, 146, 147, 148, 149] (by decide +kernel) (by decide +kernel)
set_option maxRecDepth 20000 in
theorem gX12_lean_X12_fillsWay : GoodIn wsX12_lean (wsV RX12 354 RX12 yX12_fillsWay wsX12_fillsWay) := goodIn_app (goodIn_of _ (by decide +kernel)) ggX12_lean_X12_fillsWay
theorem dX12_lean_0 : decode cX12_lean 0 = .ok (.aload_n 0, 1) := by decide +kernel
theorem dX12_lean_1 : decode cX12_lean 1 = .ok (.iload_n 1, 1) := by decide +kernel
theorem dX12_lean_2 : decode cX12_lean 2 = .ok (.iload_n 2, 1) := by decide +kernel
theorem dX12_lean_3 : decode cX12_lean 3 = .ok (.invokevirtual 342, 3) := by decide +kernel
theorem dX12_lean_6 : decode cX12_lean 6 = .ok (.ifCond .eq 12, 3) := by decide +kernel
theorem dX12_lean_9 : decode cX12_lean 9 = .ok (.iload_n 3, 1) := by decide +kernel
theorem dX12_lean_10 : decode cX12_lean 10 = .ok (.iconst 0, 1) := by decide +kernel
theorem dX12_lean_11 : decode cX12_lean 11 = .ok (.iconst 1, 1) := by decide +kernel
theorem dX12_lean_12 : decode cX12_lean 12 = .ok (.invokestatic 244, 3) := by decide +kernel
theorem dX12_lean_15 : decode cX12_lean 15 = .ok (.ifCond .ne 5, 3) := by decide +kernel
theorem dX12_lean_18 : decode cX12_lean 18 = .ok (.iconst (-1), 1) := by decide +kernel
theorem dX12_lean_19 : decode cX12_lean 19 = .ok (.ireturn, 1) := by decide +kernel
theorem dX12_lean_20 : decode cX12_lean 20 = .ok (.aload_n 0, 1) := by decide +kernel
theorem dX12_lean_21 : decode cX12_lean 21 = .ok (.invokevirtual 323, 3) := by decide +kernel
theorem dX12_lean_24 : decode cX12_lean 24 = .ok (.aload_n 0, 1) := by decide +kernel
theorem dX12_lean_25 : decode cX12_lean 25 = .ok (.iload_n 1, 1) := by decide +kernel
theorem dX12_lean_26 : decode cX12_lean 26 = .ok (.iload_n 2, 1) := by decide +kernel
theorem dX12_lean_27 : decode cX12_lean 27 = .ok (.invokevirtual 345, 3) := by decide +kernel
theorem dX12_lean_30 : decode cX12_lean 30 = .ok (.pop, 1) := by decide +kernel
theorem dX12_lean_31 : decode cX12_lean 31 = .ok (.aload_n 0, 1) := by decide +kernel
theorem dX12_lean_32 : decode cX12_lean 32 = .ok (.invokevirtual 354, 3) := by decide +kernel
theorem dX12_lean_35 : decode cX12_lean 35 = .ok (.iconst 0, 1) := by decide +kernel
theorem dX12_lean_36 : decode cX12_lean 36 = .ok (.istore 4, 2) := by decide +kernel
theorem dX12_lean_38 : decode cX12_lean 38 = .ok (.iconst 0, 1) := by decide +kernel
theorem dX12_lean_39 : decode cX12_lean 39 = .ok (.istore 5, 2) := by decide +kernel
theorem dX12_lean_41 : decode cX12_lean 41 = .ok (.iconst 0, 1) := by decide +kernel
theorem dX12_lean_42 : decode cX12_lean 42 = .ok (.istore 6, 2) := by decide +kernel
theorem dX12_lean_44 : decode cX12_lean 44 = .ok (.iload 6, 2) := by decide +kernel
theorem dX12_lean_46 : decode cX12_lean 46 = .ok (.aload_n 0, 1) := by decide +kernel
theorem dX12_lean_47 : decode cX12_lean 47 = .ok (.getfield 351, 3) := by decide +kernel
theorem dX12_lean_50 : decode cX12_lean 50 = .ok (.if_icmp .ge 83, 3) := by decide +kernel
theorem dX12_lean_53 : decode cX12_lean 53 = .ok (.aload_n 0, 1) := by decide +kernel
theorem dX12_lean_54 : decode cX12_lean 54 = .ok (.getfield 88, 3) := by decide +kernel
theorem dX12_lean_57 : decode cX12_lean 57 = .ok (.iload 6, 2) := by decide +kernel
theorem dX12_lean_59 : decode cX12_lean 59 = .ok (.iaload, 1) := by decide +kernel
theorem dX12_lean_60 : decode cX12_lean 60 = .ok (.bipush 100, 2) := by decide +kernel
theorem dX12_lean_62 : decode cX12_lean 62 = .ok (.idiv, 1) := by decide +kernel
theorem dX12_lean_63 : decode cX12_lean 63 = .ok (.aload_n 0, 1) := by decide +kernel
theorem dX12_lean_64 : decode cX12_lean 64 = .ok (.getfield 88, 3) := by decide +kernel
theorem dX12_lean_67 : decode cX12_lean 67 = .ok (.iload 6, 2) := by decide +kernel
theorem dX12_lean_69 : decode cX12_lean 69 = .ok (.iaload, 1) := by decide +kernel
theorem dX12_lean_70 : decode cX12_lean 70 = .ok (.bipush 100, 2) := by decide +kernel
theorem dX12_lean_72 : decode cX12_lean 72 = .ok (.irem, 1) := by decide +kernel
theorem dX12_lean_73 : decode cX12_lean 73 = .ok (.isub, 1) := by decide +kernel
theorem dX12_lean_74 : decode cX12_lean 74 = .ok (.istore 7, 2) := by decide +kernel
theorem dX12_lean_76 : decode cX12_lean 76 = .ok (.iload 7, 2) := by decide +kernel
theorem dX12_lean_78 : decode cX12_lean 78 = .ok (.ifCond .ge 8, 3) := by decide +kernel
theorem dX12_lean_81 : decode cX12_lean 81 = .ok (.iload 7, 2) := by decide +kernel
theorem dX12_lean_83 : decode cX12_lean 83 = .ok (.ineg, 1) := by decide +kernel
theorem dX12_lean_84 : decode cX12_lean 84 = .ok (.istore 7, 2) := by decide +kernel
theorem dX12_lean_86 : decode cX12_lean 86 = .ok (.iload 7, 2) := by decide +kernel
theorem dX12_lean_88 : decode cX12_lean 88 = .ok (.iload 4, 2) := by decide +kernel
theorem dX12_lean_90 : decode cX12_lean 90 = .ok (.if_icmp .le 7, 3) := by decide +kernel
theorem dX12_lean_93 : decode cX12_lean 93 = .ok (.iload 7, 2) := by decide +kernel
theorem dX12_lean_95 : decode cX12_lean 95 = .ok (.istore 4, 2) := by decide +kernel
theorem dX12_lean_97 : decode cX12_lean 97 = .ok (.iload 6, 2) := by decide +kernel
theorem dX12_lean_99 : decode cX12_lean 99 = .ok (.ifCond .le 28, 3) := by decide +kernel
theorem dX12_lean_102 : decode cX12_lean 102 = .ok (.aload_n 0, 1) := by decide +kernel
theorem dX12_lean_103 : decode cX12_lean 103 = .ok (.getfield 88, 3) := by decide +kernel
theorem dX12_lean_106 : decode cX12_lean 106 = .ok (.iload 6, 2) := by decide +kernel
theorem dX12_lean_108 : decode cX12_lean 108 = .ok (.iconst 1, 1) := by decide +kernel
theorem dX12_lean_109 : decode cX12_lean 109 = .ok (.isub, 1) := by decide +kernel
theorem dX12_lean_110 : decode cX12_lean 110 = .ok (.iaload, 1) := by decide +kernel
theorem dX12_lean_111 : decode cX12_lean 111 = .ok (.aload_n 0, 1) := by decide +kernel
theorem dX12_lean_112 : decode cX12_lean 112 = .ok (.getfield 88, 3) := by decide +kernel
theorem dX12_lean_115 : decode cX12_lean 115 = .ok (.iload 6, 2) := by decide +kernel
theorem dX12_lean_117 : decode cX12_lean 117 = .ok (.iaload, 1) := by decide +kernel
theorem dX12_lean_118 : decode cX12_lean 118 = .ok (.isub, 1) := by decide +kernel
theorem dX12_lean_119 : decode cX12_lean 119 = .ok (.bipush 101, 2) := by decide +kernel
theorem dX12_lean_121 : decode cX12_lean 121 = .ok (.if_icmp .ne 6, 3) := by decide +kernel
theorem dX12_lean_124 : decode cX12_lean 124 = .ok (.iinc 5 1, 3) := by decide +kernel
theorem dX12_lean_127 : decode cX12_lean 127 = .ok (.iinc 6 1, 3) := by decide +kernel
theorem dX12_lean_130 : decode cX12_lean 130 = .ok (.goto (-86), 3) := by decide +kernel
theorem dX12_lean_133 : decode cX12_lean 133 = .ok (.iload_n 3, 1) := by decide +kernel
theorem dX12_lean_134 : decode cX12_lean 134 = .ok (.ifCond .ne 8, 3) := by decide +kernel
theorem dX12_lean_137 : decode cX12_lean 137 = .ok (.iload 4, 2) := by decide +kernel
theorem dX12_lean_139 : decode cX12_lean 139 = .ok (.goto 5, 3) := by decide +kernel
theorem dX12_lean_142 : decode cX12_lean 142 = .ok (.iload 5, 2) := by decide +kernel
theorem dX12_lean_144 : decode cX12_lean 144 = .ok (.ireturn, 1) := by decide +kernel
set_option maxRecDepth 20000 in
theorem ggX12_fillsFar_X12_copies : GoodIn wsX12_fillsFar wsX12_copies := goodIn_r _ [6, 7, 8, 90, 91, 92, 93, 94, 95, 96, 97, 98, 99, 100, 101, 102, 103, 104, 105, 106, 107, 108, 109, 110, 111, 112, 113, 114, 115, 116, 117, 118, 119, 120, 121, 122, 123, 124, 125, 126, 127, 128, 129, 130, 131, 132, 133, 134, 135, 136, 137, 138, 139, 140, 141, 142, 143, 144] (by decide +kernel) (by decide +kernel)
set_option maxRecDepth 20000 in
theorem gX12_fillsFar_X12_copies : GoodIn wsX12_fillsFar (wsV RX12 323 RX12 yX12_copies wsX12_copies) := goodIn_app (goodIn_of _ (by decide +kernel)) ggX12_fillsFar_X12_copies
set_option maxRecDepth 20000 in
theorem ggX12_fillsFar_X12_isOf : GoodIn wsX12_fillsFar wsX12_isOf := goodIn_r _ [12, 13, 14, 15, 5, 16, 17, 18, 19, 20, 21, 22, 23, 24, 25, 26, 27, 28, 29, 30, 8, 31, 90, 91, 92, 93, 94, 95, 96, 97, 98, 99, 100, 101, 102, 103, 104, 105, 106, 107, 108, 109, 110, 111, 112, 113, 114, 115, 116, 117, 118, 119, 120, 121, 122, 123, 124, 125, 126, 127, 128, 129, 130, 131, 132, 133, 134, 135, 136, 137, 138, 139, 140, 141, 142, 143, 144] (by decide +kernel) (by decide +kernel)
set_option maxRecDepth 20000 in
theorem gX12_fillsFar_X12_isOf : GoodIn wsX12_fillsFar (wsV RX12 342 RX12 yX12_isOf wsX12_isOf) := goodIn_app (goodIn_of _ (by decide +kernel)) ggX12_fillsFar_X12_isOf
set_option maxRecDepth 20000 in
theorem ggX12_fillsFar_X12_distanceOf : GoodIn wsX12_fillsFar wsX12_distanceOf := goodIn_r _ [35, 36, 37, 38, 39, 5, 40, 41, 22, 23, 24, 25, 26, 18, 42, 43, 44, 45, 46, 7, 47, 48, 49, 50, 51, 52, 53, 54, 55, 56, 57, 58, 59, 60, 61, 62, 63, 64, 65, 66, 67, 68, 69, 70, 71, 72, 73, 74, 75, 76, 77, 78, 19, 20, 21, 79, 80, 81, 82, 83, 84, 85, 86, 87, 88, 89, 90, 91, 92, 93, 94, 95, 96, 97, 98, 99, 100, 101, 102, 103, 104, 105, 106, 107, 108, 109, 110, 111, 112, 113, 114, 115, 116, 117, 118, 119, 120, 121, 122, 123, 124, 125, 126, 127, 128, 129, 130, 131, 132, 133, 134, 135, 136, 137, 138, 139, 140, 141, 142, 143, 144] (by decide +kernel) (by decide +kernel)
set_option maxRecDepth 20000 in
theorem gX12_fillsFar_X12_distanceOf : GoodIn wsX12_fillsFar (wsV RX12 345 RX12 yX12_distanceOf wsX12_distanceOf) := goodIn_app (goodIn_of _ (by decide +kernel)) ggX12_fillsFar_X12_distanceOf
theorem dX12_fillsFar_0 : decode cX12_fillsFar 0 = .ok (.aload_n 0, 1) := by decide +kernel
theorem dX12_fillsFar_1 : decode cX12_fillsFar 1 = .ok (.invokevirtual 323, 3) := by decide +kernel
theorem dX12_fillsFar_4 : decode cX12_fillsFar 4 = .ok (.iconst 0, 1) := by decide +kernel
theorem dX12_fillsFar_5 : decode cX12_fillsFar 5 = .ok (.istore_n 2, 1) := by decide +kernel
theorem dX12_fillsFar_6 : decode cX12_fillsFar 6 = .ok (.iload_n 2, 1) := by decide +kernel
theorem dX12_fillsFar_7 : decode cX12_fillsFar 7 = .ok (.sipush 160, 3) := by decide +kernel
theorem dX12_fillsFar_10 : decode cX12_fillsFar 10 = .ok (.if_icmp .ge 34, 3) := by decide +kernel
theorem dX12_fillsFar_13 : decode cX12_fillsFar 13 = .ok (.aload_n 0, 1) := by decide +kernel
theorem dX12_fillsFar_14 : decode cX12_fillsFar 14 = .ok (.getfield 91, 3) := by decide +kernel
theorem dX12_fillsFar_17 : decode cX12_fillsFar 17 = .ok (.iload_n 2, 1) := by decide +kernel
theorem dX12_fillsFar_18 : decode cX12_fillsFar 18 = .ok (.aload_n 0, 1) := by decide +kernel
theorem dX12_fillsFar_19 : decode cX12_fillsFar 19 = .ok (.iload_n 1, 1) := by decide +kernel
theorem dX12_fillsFar_20 : decode cX12_fillsFar 20 = .ok (.iload_n 2, 1) := by decide +kernel
theorem dX12_fillsFar_21 : decode cX12_fillsFar 21 = .ok (.invokevirtual 342, 3) := by decide +kernel
theorem dX12_fillsFar_24 : decode cX12_fillsFar 24 = .ok (.ifCond .eq 12, 3) := by decide +kernel
theorem dX12_fillsFar_27 : decode cX12_fillsFar 27 = .ok (.aload_n 0, 1) := by decide +kernel
theorem dX12_fillsFar_28 : decode cX12_fillsFar 28 = .ok (.iload_n 1, 1) := by decide +kernel
theorem dX12_fillsFar_29 : decode cX12_fillsFar 29 = .ok (.iload_n 2, 1) := by decide +kernel
theorem dX12_fillsFar_30 : decode cX12_fillsFar 30 = .ok (.invokevirtual 345, 3) := by decide +kernel
theorem dX12_fillsFar_33 : decode cX12_fillsFar 33 = .ok (.goto 4, 3) := by decide +kernel
theorem dX12_fillsFar_36 : decode cX12_fillsFar 36 = .ok (.iconst (-1), 1) := by decide +kernel
theorem dX12_fillsFar_37 : decode cX12_fillsFar 37 = .ok (.iastore, 1) := by decide +kernel
theorem dX12_fillsFar_38 : decode cX12_fillsFar 38 = .ok (.iinc 2 1, 3) := by decide +kernel
theorem dX12_fillsFar_41 : decode cX12_fillsFar 41 = .ok (.goto (-35), 3) := by decide +kernel
theorem dX12_fillsFar_44 : decode cX12_fillsFar 44 = .ok (.return_, 1) := by decide +kernel
theorem dX12_bestWindow_0 : decode cX12_bestWindow 0 = .ok (.bipush (-2), 2) := by decide +kernel
theorem dX12_bestWindow_2 : decode cX12_bestWindow 2 = .ok (.istore_n 1, 1) := by decide +kernel
theorem dX12_bestWindow_3 : decode cX12_bestWindow 3 = .ok (.iconst 0, 1) := by decide +kernel
theorem dX12_bestWindow_4 : decode cX12_bestWindow 4 = .ok (.istore_n 2, 1) := by decide +kernel
theorem dX12_bestWindow_5 : decode cX12_bestWindow 5 = .ok (.iload_n 2, 1) := by decide +kernel
theorem dX12_bestWindow_6 : decode cX12_bestWindow 6 = .ok (.sipush 160, 3) := by decide +kernel
theorem dX12_bestWindow_9 : decode cX12_bestWindow 9 = .ok (.if_icmp .ge 39, 3) := by decide +kernel
theorem dX12_bestWindow_12 : decode cX12_bestWindow 12 = .ok (.aload_n 0, 1) := by decide +kernel
theorem dX12_bestWindow_13 : decode cX12_bestWindow 13 = .ok (.getfield 91, 3) := by decide +kernel
theorem dX12_bestWindow_16 : decode cX12_bestWindow 16 = .ok (.iload_n 2, 1) := by decide +kernel
theorem dX12_bestWindow_17 : decode cX12_bestWindow 17 = .ok (.iaload, 1) := by decide +kernel
theorem dX12_bestWindow_18 : decode cX12_bestWindow 18 = .ok (.ifCond .lt 24, 3) := by decide +kernel
theorem dX12_bestWindow_21 : decode cX12_bestWindow 21 = .ok (.iload_n 1, 1) := by decide +kernel
theorem dX12_bestWindow_22 : decode cX12_bestWindow 22 = .ok (.ifCond .lt 18, 3) := by decide +kernel
theorem dX12_bestWindow_25 : decode cX12_bestWindow 25 = .ok (.aload_n 0, 1) := by decide +kernel
theorem dX12_bestWindow_26 : decode cX12_bestWindow 26 = .ok (.getfield 91, 3) := by decide +kernel
theorem dX12_bestWindow_29 : decode cX12_bestWindow 29 = .ok (.iload_n 2, 1) := by decide +kernel
theorem dX12_bestWindow_30 : decode cX12_bestWindow 30 = .ok (.iaload, 1) := by decide +kernel
theorem dX12_bestWindow_31 : decode cX12_bestWindow 31 = .ok (.aload_n 0, 1) := by decide +kernel
theorem dX12_bestWindow_32 : decode cX12_bestWindow 32 = .ok (.getfield 91, 3) := by decide +kernel
theorem dX12_bestWindow_35 : decode cX12_bestWindow 35 = .ok (.iload_n 1, 1) := by decide +kernel
theorem dX12_bestWindow_36 : decode cX12_bestWindow 36 = .ok (.iaload, 1) := by decide +kernel
theorem dX12_bestWindow_37 : decode cX12_bestWindow 37 = .ok (.if_icmp .ge 5, 3) := by decide +kernel
theorem dX12_bestWindow_40 : decode cX12_bestWindow 40 = .ok (.iload_n 2, 1) := by decide +kernel
theorem dX12_bestWindow_41 : decode cX12_bestWindow 41 = .ok (.istore_n 1, 1) := by decide +kernel
theorem dX12_bestWindow_42 : decode cX12_bestWindow 42 = .ok (.iinc 2 1, 3) := by decide +kernel
theorem dX12_bestWindow_45 : decode cX12_bestWindow 45 = .ok (.goto (-40), 3) := by decide +kernel
theorem dX12_bestWindow_48 : decode cX12_bestWindow 48 = .ok (.iload_n 1, 1) := by decide +kernel
theorem dX12_bestWindow_49 : decode cX12_bestWindow 49 = .ok (.ireturn, 1) := by decide +kernel
set_option maxRecDepth 20000 in
theorem ggX12_best_X12_isQuery : GoodIn wsX12_best wsX12_isQuery := goodIn_r _ [6, 7, 8, 9, 10, 5, 11, 98, 99, 100, 101, 102, 103, 104, 105, 106, 107, 108, 109, 110, 111, 112, 113, 114, 115, 116, 117, 118, 119, 120, 121, 122, 123, 124, 125, 126, 127, 128, 129, 130, 131, 132, 133, 134, 135, 136, 137, 138, 139, 140, 141, 142, 143, 144, 145, 146, 147, 148, 149, 150, 151, 152] (by decide +kernel) (by decide +kernel)
set_option maxRecDepth 20000 in
theorem gX12_best_X12_isQuery : GoodIn wsX12_best (wsV RX12 251 RX12 yX12_isQuery wsX12_isQuery) := goodIn_app (goodIn_of _ (by decide +kernel)) ggX12_best_X12_isQuery
set_option maxRecDepth 20000 in
theorem ggX12_best_X12_in : GoodIn wsX12_best wsX12_in := goodIn_r _ [11] (by decide +kernel) (by decide +kernel)
set_option maxRecDepth 20000 in
theorem gX12_best_X12_in : GoodIn wsX12_best (va_wsS RX12 244 yX12_in wsX12_in) := goodIn_app (goodIn_of _ (by decide +kernel)) ggX12_best_X12_in
set_option maxRecDepth 20000 in
theorem ggX12_best_X12_fillsFar : GoodIn wsX12_best wsX12_fillsFar := goodIn_r _ [15, 1, 16, 17, 18, 5, 19, 20, 21, 22, 23, 24, 25, 2, 3, 4, 6, 7, 8, 9, 10, 11, 26, 27, 28, 29, 30, 31, 32, 33, 34, 35, 36, 37, 38, 39, 40, 41, 42, 43, 44, 45, 46, 47, 48, 49, 50, 51, 52, 53, 54, 55, 56, 57, 58, 59, 60, 61, 62, 63, 64, 65, 66, 67, 68, 69, 70, 71, 72, 73, 74, 75, 76, 77, 78, 79, 80, 81, 82, 83, 84, 85, 86, 87, 88, 89, 90, 91, 92, 93, 98, 99, 100, 101, 102, 103, 104, 105, 106, 107, 108, 109, 110, 111, 112, 113, 114, 115, 116, 117, 118, 119, 120, 121, 122, 123, 124, 125, 126, 127, 128, 129, 130, 131, 132, 133, 134, 135, 136, 137, 138, 139, 140, 141, 142, 143, 144, 145, 146, 147, 148, 149, 150, 151, 152] (by decide +kernel) (by decide +kernel)
set_option maxRecDepth 20000 in
theorem gX12_best_X12_fillsFar : GoodIn wsX12_best (wsV RX12 357 RX12 yX12_fillsFar wsX12_fillsFar) := goodIn_app (goodIn_of _ (by decide +kernel)) ggX12_best_X12_fillsFar
set_option maxRecDepth 20000 in
theorem ggX12_best_X12_bestWindow : GoodIn wsX12_best wsX12_bestWindow := goodIn_r _ [97, 1, 98, 99, 100, 101, 102, 103, 104, 105, 106, 107, 108, 109, 110, 111, 112, 113, 114, 115, 116, 117, 118, 119, 120, 121, 122, 123, 124, 125, 126, 127, 128, 129, 130, 131, 132, 133, 134, 135, 136, 137, 138, 139, 140, 141, 142, 143, 144, 145, 146, 147, 148, 149, 150, 151, 152] (by decide +kernel) (by decide +kernel)
set_option maxRecDepth 20000 in
theorem gX12_best_X12_bestWindow : GoodIn wsX12_best (wsV RX12 360 RX12 yX12_bestWindow wsX12_bestWindow) := goodIn_app (goodIn_of _ (by decide +kernel)) ggX12_best_X12_bestWindow
theorem dX12_best_0 : decode cX12_best 0 = .ok (.aload_n 0, 1) := by decide +kernel
theorem dX12_best_1 : decode cX12_best 1 = .ok (.iload_n 1, 1) := by decide +kernel
theorem dX12_best_2 : decode cX12_best 2 = .ok (.invokevirtual 251, 3) := by decide +kernel
theorem dX12_best_5 : decode cX12_best 5 = .ok (.ifCond .eq 12, 3) := by decide +kernel
theorem dX12_best_8 : decode cX12_best 8 = .ok (.iload_n 2, 1) := by decide +kernel
theorem dX12_best_9 : decode cX12_best 9 = .ok (.iconst 0, 1) := by decide +kernel
theorem dX12_best_10 : decode cX12_best 10 = .ok (.iconst 1, 1) := by decide +kernel
theorem dX12_best_11 : decode cX12_best 11 = .ok (.invokestatic 244, 3) := by decide +kernel
theorem dX12_best_14 : decode cX12_best 14 = .ok (.ifCond .ne 5, 3) := by decide +kernel
theorem dX12_best_17 : decode cX12_best 17 = .ok (.iconst (-1), 1) := by decide +kernel
theorem dX12_best_18 : decode cX12_best 18 = .ok (.ireturn, 1) := by decide +kernel
theorem dX12_best_19 : decode cX12_best 19 = .ok (.aload_n 0, 1) := by decide +kernel
theorem dX12_best_20 : decode cX12_best 20 = .ok (.iload_n 1, 1) := by decide +kernel
theorem dX12_best_21 : decode cX12_best 21 = .ok (.invokevirtual 357, 3) := by decide +kernel
theorem dX12_best_24 : decode cX12_best 24 = .ok (.aload_n 0, 1) := by decide +kernel
theorem dX12_best_25 : decode cX12_best 25 = .ok (.invokevirtual 360, 3) := by decide +kernel
theorem dX12_best_28 : decode cX12_best 28 = .ok (.istore_n 3, 1) := by decide +kernel
theorem dX12_best_29 : decode cX12_best 29 = .ok (.iload_n 3, 1) := by decide +kernel
theorem dX12_best_30 : decode cX12_best 30 = .ok (.ifCond .lt 7, 3) := by decide +kernel
theorem dX12_best_33 : decode cX12_best 33 = .ok (.iload_n 2, 1) := by decide +kernel
theorem dX12_best_34 : decode cX12_best 34 = .ok (.ifCond .ne 7, 3) := by decide +kernel
theorem dX12_best_37 : decode cX12_best 37 = .ok (.iload_n 3, 1) := by decide +kernel
theorem dX12_best_38 : decode cX12_best 38 = .ok (.goto 9, 3) := by decide +kernel
theorem dX12_best_41 : decode cX12_best 41 = .ok (.aload_n 0, 1) := by decide +kernel
theorem dX12_best_42 : decode cX12_best 42 = .ok (.getfield 91, 3) := by decide +kernel
theorem dX12_best_45 : decode cX12_best 45 = .ok (.iload_n 3, 1) := by decide +kernel
theorem dX12_best_46 : decode cX12_best 46 = .ok (.iaload, 1) := by decide +kernel
theorem dX12_best_47 : decode cX12_best 47 = .ok (.ireturn, 1) := by decide +kernel
set_option maxRecDepth 20000 in
theorem ggX12_needs_X12_isOf : GoodIn wsX12_needs wsX12_isOf := goodIn_r _ [6, 7, 8, 9, 5, 10, 11, 12, 13, 14, 15, 16, 17, 18, 19, 20, 21, 22, 23, 24, 1, 25, 98, 99, 100, 101, 102, 103, 104, 105, 106, 107, 108, 109, 110, 111, 112, 113, 114, 115, 116, 117, 118, 119, 120, 121, 122, 123, 124, 125, 126, 127, 128, 129, 130, 131, 132, 133, 134, 135, 136, 137, 138, 139, 140, 141, 142, 143, 144, 145, 146, 147, 148, 149, 150, 151, 152] (by decide +kernel) (by decide +kernel)
set_option maxRecDepth 20000 in
theorem gX12_needs_X12_isOf : GoodIn wsX12_needs (wsV RX12 342 RX12 yX12_isOf wsX12_isOf) := goodIn_app (goodIn_of _ (by decide +kernel)) ggX12_needs_X12_isOf
set_option maxRecDepth 20000 in
theorem ggX12_needs_X12_fillsFar : GoodIn wsX12_needs wsX12_fillsFar := goodIn_r _ [29, 30, 31, 32, 33, 5, 34, 35, 1, 2, 3, 4, 6, 7, 8, 9, 10, 11, 12, 13, 14, 15, 16, 17, 18, 19, 20, 21, 22, 23, 24, 25, 36, 37, 38, 39, 40, 41, 42, 43, 44, 45, 46, 47, 48, 49, 50, 51, 52, 53, 54, 55, 56, 57, 58, 59, 60, 61, 62, 63, 64, 65, 66, 67, 68, 69, 70, 71, 72, 73, 74, 75, 76, 77, 78, 79, 80, 81, 82, 83, 84, 85, 86, 87, 88, 89, 90, 91, 92, 93, 98, 99, 100, 101, 102, 103, 104, 105, 106, 107, 108, 109, 110, 111, 112, 113, 114, 115, 116, 117, 118, 119, 120, 121, 122, 123, 124, 125, 126, 127, 128, 129, 130, 131, 132, 133, 134, 135, 136, 137, 138, 139, 140, 141, 142, 143, 144, 145, 146, 147, 148, 149, 150, 151, 152] (by decide +kernel) (by decide +kernel)
set_option maxRecDepth 20000 in
theorem gX12_needs_X12_fillsFar : GoodIn wsX12_needs (wsV RX12 357 RX12 yX12_fillsFar wsX12_fillsFar) := goodIn_app (goodIn_of _ (by decide +kernel)) ggX12_needs_X12_fillsFar
set_option maxRecDepth 20000 in
theorem ggX12_needs_X12_bestWindow : GoodIn wsX12_needs wsX12_bestWindow := goodIn_r _ [97, 30, 98, 99, 100, 101, 102, 103, 104, 105, 106, 107, 108, 109, 110, 111, 112, 113, 114, 115, 116, 117, 118, 119, 120, 121, 122, 123, 124, 125, 126, 127, 128, 129, 130, 131, 132, 133, 134, 135, 136, 137, 138, 139, 140, 141, 142, 143, 144, 145, 146, 147, 148, 149, 150, 151, 152] (by decide +kernel) (by decide +kernel)
set_option maxRecDepth 20000 in
theorem gX12_needs_X12_bestWindow : GoodIn wsX12_needs (wsV RX12 360 RX12 yX12_bestWindow wsX12_bestWindow) := goodIn_app (goodIn_of _ (by decide +kernel)) ggX12_needs_X12_bestWindow
theorem dX12_needs_0 : decode cX12_needs 0 = .ok (.aload_n 0, 1) := by decide +kernel
theorem dX12_needs_1 : decode cX12_needs 1 = .ok (.iload_n 1, 1) := by decide +kernel
theorem dX12_needs_2 : decode cX12_needs 2 = .ok (.iload_n 2, 1) := by decide +kernel
theorem dX12_needs_3 : decode cX12_needs 3 = .ok (.invokevirtual 342, 3) := by decide +kernel
theorem dX12_needs_6 : decode cX12_needs 6 = .ok (.ifCond .ne 5, 3) := by decide +kernel
theorem dX12_needs_9 : decode cX12_needs 9 = .ok (.iconst (-1), 1) := by decide +kernel
theorem dX12_needs_10 : decode cX12_needs 10 = .ok (.ireturn, 1) := by decide +kernel
theorem dX12_needs_11 : decode cX12_needs 11 = .ok (.aload_n 0, 1) := by decide +kernel
theorem dX12_needs_12 : decode cX12_needs 12 = .ok (.getfield 70, 3) := by decide +kernel
theorem dX12_needs_15 : decode cX12_needs 15 = .ok (.sipush 161, 3) := by decide +kernel
theorem dX12_needs_18 : decode cX12_needs 18 = .ok (.iaload, 1) := by decide +kernel
theorem dX12_needs_19 : decode cX12_needs 19 = .ok (.istore_n 3, 1) := by decide +kernel
theorem dX12_needs_20 : decode cX12_needs 20 = .ok (.bipush (-2), 2) := by decide +kernel
theorem dX12_needs_22 : decode cX12_needs 22 = .ok (.istore 4, 2) := by decide +kernel
theorem dX12_needs_24 : decode cX12_needs 24 = .ok (.bipush 15, 2) := by decide +kernel
theorem dX12_needs_26 : decode cX12_needs 26 = .ok (.istore 5, 2) := by decide +kernel
theorem dX12_needs_28 : decode cX12_needs 28 = .ok (.iload 5, 2) := by decide +kernel
theorem dX12_needs_30 : decode cX12_needs 30 = .ok (.ifCond .lt 36, 3) := by decide +kernel
theorem dX12_needs_33 : decode cX12_needs 33 = .ok (.aload_n 0, 1) := by decide +kernel
theorem dX12_needs_34 : decode cX12_needs 34 = .ok (.getfield 70, 3) := by decide +kernel
theorem dX12_needs_37 : decode cX12_needs 37 = .ok (.sipush 161, 3) := by decide +kernel
theorem dX12_needs_40 : decode cX12_needs 40 = .ok (.iload 5, 2) := by decide +kernel
theorem dX12_needs_42 : decode cX12_needs 42 = .ok (.iastore, 1) := by decide +kernel
theorem dX12_needs_43 : decode cX12_needs 43 = .ok (.aload_n 0, 1) := by decide +kernel
theorem dX12_needs_44 : decode cX12_needs 44 = .ok (.iload_n 1, 1) := by decide +kernel
theorem dX12_needs_45 : decode cX12_needs 45 = .ok (.invokevirtual 357, 3) := by decide +kernel
theorem dX12_needs_48 : decode cX12_needs 48 = .ok (.aload_n 0, 1) := by decide +kernel
theorem dX12_needs_49 : decode cX12_needs 49 = .ok (.invokevirtual 360, 3) := by decide +kernel
theorem dX12_needs_52 : decode cX12_needs 52 = .ok (.iload_n 2, 1) := by decide +kernel
theorem dX12_needs_53 : decode cX12_needs 53 = .ok (.if_icmp .ne 7, 3) := by decide +kernel
theorem dX12_needs_56 : decode cX12_needs 56 = .ok (.iload 5, 2) := by decide +kernel
theorem dX12_needs_58 : decode cX12_needs 58 = .ok (.istore 4, 2) := by decide +kernel
theorem dX12_needs_60 : decode cX12_needs 60 = .ok (.iinc 5 (-1), 3) := by decide +kernel
theorem dX12_needs_63 : decode cX12_needs 63 = .ok (.goto (-35), 3) := by decide +kernel
theorem dX12_needs_66 : decode cX12_needs 66 = .ok (.aload_n 0, 1) := by decide +kernel
theorem dX12_needs_67 : decode cX12_needs 67 = .ok (.getfield 70, 3) := by decide +kernel
theorem dX12_needs_70 : decode cX12_needs 70 = .ok (.sipush 161, 3) := by decide +kernel
theorem dX12_needs_73 : decode cX12_needs 73 = .ok (.iload_n 3, 1) := by decide +kernel
theorem dX12_needs_74 : decode cX12_needs 74 = .ok (.iastore, 1) := by decide +kernel
theorem dX12_needs_75 : decode cX12_needs 75 = .ok (.iload 4, 2) := by decide +kernel
theorem dX12_needs_77 : decode cX12_needs 77 = .ok (.ireturn, 1) := by decide +kernel
set_option maxRecDepth 20000 in
theorem ggX12_fillsSearch_X12_copies : GoodIn wsX12_fillsSearch wsX12_copies := goodIn_r _ [10, 11, 12, 104, 105, 106, 107, 108, 109, 110, 111, 112, 113, 114, 115, 116, 117, 118, 119, 120, 121, 122, 123, 124, 125, 126, 127, 128, 129, 130, 131, 132, 133, 134, 135, 136, 137, 138, 139, 140, 141, 142, 143, 144, 145, 146, 147, 148, 149, 150, 151, 152, 153, 154, 155, 156, 157, 158] (by decide +kernel) (by decide +kernel)
set_option maxRecDepth 20000 in
theorem gX12_fillsSearch_X12_copies : GoodIn wsX12_fillsSearch (wsV RX12 323 RX12 yX12_copies wsX12_copies) := goodIn_app (goodIn_of _ (by decide +kernel)) ggX12_fillsSearch_X12_copies
set_option maxRecDepth 20000 in
theorem ggX12_fillsSearch_X12_isOf : GoodIn wsX12_fillsSearch wsX12_isOf := goodIn_r _ [16, 17, 18, 19, 9, 20, 21, 22, 23, 24, 25, 26, 27, 28, 29, 30, 31, 32, 33, 34, 12, 35, 104, 105, 106, 107, 108, 109, 110, 111, 112, 113, 114, 115, 116, 117, 118, 119, 120, 121, 122, 123, 124, 125, 126, 127, 128, 129, 130, 131, 132, 133, 134, 135, 136, 137, 138, 139, 140, 141, 142, 143, 144, 145, 146, 147, 148, 149, 150, 151, 152, 153, 154, 155, 156, 157, 158] (by decide +kernel) (by decide +kernel)
set_option maxRecDepth 20000 in
theorem gX12_fillsSearch_X12_isOf : GoodIn wsX12_fillsSearch (wsV RX12 342 RX12 yX12_isOf wsX12_isOf) := goodIn_app (goodIn_of _ (by decide +kernel)) ggX12_fillsSearch_X12_isOf
set_option maxRecDepth 20000 in
theorem ggX12_fillsSearch_X12_passes : GoodIn wsX12_fillsSearch wsX12_passes := goodIn_r _ [39, 3, 4, 2, 5, 40, 41, 42, 9, 43, 44, 26, 27, 28, 29, 30, 22, 45, 46, 47, 48, 49, 11, 50, 51, 52, 53, 54, 55, 56, 57, 58, 59, 60, 61, 62, 63, 64, 65, 66, 67, 68, 69, 70, 71, 72, 73, 74, 75, 76, 77, 78, 79, 80, 81, 82, 83, 23, 24, 25, 84, 85, 86, 87, 88, 89, 90, 91, 92, 93, 94, 95, 96, 97, 98, 99, 100, 101, 102, 103, 104, 105, 106, 107, 108, 109, 110, 111, 112, 113, 114, 115, 116, 117, 118, 119, 120, 121, 122, 123, 124, 125, 126, 127, 128, 129, 130, 131, 132, 133, 134, 135, 136, 137, 138, 139, 140, 141, 142, 143, 144, 145, 146, 147, 148, 149, 150, 151, 152, 153, 154, 155, 156, 157, 158] (by decide +kernel) (by decide +kernel)
set_option maxRecDepth 20000 in
theorem gX12_fillsSearch_X12_passes : GoodIn wsX12_fillsSearch (wsV RX12 348 RX12 yX12_passes wsX12_passes) := goodIn_app (goodIn_of _ (by decide +kernel)) ggX12_fillsSearch_X12_passes
theorem dX12_fillsSearch_0 : decode cX12_fillsSearch 0 = .ok (.aload_n 0, 1) := by decide +kernel
theorem dX12_fillsSearch_1 : decode cX12_fillsSearch 1 = .ok (.invokevirtual 323, 3) := by decide +kernel
theorem dX12_fillsSearch_4 : decode cX12_fillsSearch 4 = .ok (.iconst 0, 1) := by decide +kernel
theorem dX12_fillsSearch_5 : decode cX12_fillsSearch 5 = .ok (.istore_n 2, 1) := by decide +kernel
theorem dX12_fillsSearch_6 : decode cX12_fillsSearch 6 = .ok (.iload_n 2, 1) := by decide +kernel
theorem dX12_fillsSearch_7 : decode cX12_fillsSearch 7 = .ok (.bipush 9, 2) := by decide +kernel
theorem dX12_fillsSearch_9 : decode cX12_fillsSearch 9 = .ok (.if_icmp .ge 16, 3) := by decide +kernel
theorem dX12_fillsSearch_12 : decode cX12_fillsSearch 12 = .ok (.aload_n 0, 1) := by decide +kernel
theorem dX12_fillsSearch_13 : decode cX12_fillsSearch 13 = .ok (.getfield 94, 3) := by decide +kernel
theorem dX12_fillsSearch_16 : decode cX12_fillsSearch 16 = .ok (.iload_n 2, 1) := by decide +kernel
theorem dX12_fillsSearch_17 : decode cX12_fillsSearch 17 = .ok (.iconst 0, 1) := by decide +kernel
theorem dX12_fillsSearch_18 : decode cX12_fillsSearch 18 = .ok (.iastore, 1) := by decide +kernel
theorem dX12_fillsSearch_19 : decode cX12_fillsSearch 19 = .ok (.iinc 2 1, 3) := by decide +kernel
theorem dX12_fillsSearch_22 : decode cX12_fillsSearch 22 = .ok (.goto (-16), 3) := by decide +kernel
theorem dX12_fillsSearch_25 : decode cX12_fillsSearch 25 = .ok (.ldc_w 282, 3) := by decide +kernel
theorem dX12_fillsSearch_28 : decode cX12_fillsSearch 28 = .ok (.istore_n 2, 1) := by decide +kernel
theorem dX12_fillsSearch_29 : decode cX12_fillsSearch 29 = .ok (.iconst 0, 1) := by decide +kernel
theorem dX12_fillsSearch_30 : decode cX12_fillsSearch 30 = .ok (.istore_n 3, 1) := by decide +kernel
theorem dX12_fillsSearch_31 : decode cX12_fillsSearch 31 = .ok (.iload_n 3, 1) := by decide +kernel
theorem dX12_fillsSearch_32 : decode cX12_fillsSearch 32 = .ok (.sipush 160, 3) := by decide +kernel
theorem dX12_fillsSearch_35 : decode cX12_fillsSearch 35 = .ok (.if_icmp .ge 107, 3) := by decide +kernel
theorem dX12_fillsSearch_38 : decode cX12_fillsSearch 38 = .ok (.aload_n 0, 1) := by decide +kernel
theorem dX12_fillsSearch_39 : decode cX12_fillsSearch 39 = .ok (.iload_n 1, 1) := by decide +kernel
theorem dX12_fillsSearch_40 : decode cX12_fillsSearch 40 = .ok (.iload_n 3, 1) := by decide +kernel
theorem dX12_fillsSearch_41 : decode cX12_fillsSearch 41 = .ok (.invokevirtual 342, 3) := by decide +kernel
theorem dX12_fillsSearch_44 : decode cX12_fillsSearch 44 = .ok (.ifCond .ne 6, 3) := by decide +kernel
theorem dX12_fillsSearch_47 : decode cX12_fillsSearch 47 = .ok (.goto 89, 3) := by decide +kernel
theorem dX12_fillsSearch_50 : decode cX12_fillsSearch 50 = .ok (.aload_n 0, 1) := by decide +kernel
theorem dX12_fillsSearch_51 : decode cX12_fillsSearch 51 = .ok (.iload_n 1, 1) := by decide +kernel
theorem dX12_fillsSearch_52 : decode cX12_fillsSearch 52 = .ok (.iload_n 3, 1) := by decide +kernel
theorem dX12_fillsSearch_53 : decode cX12_fillsSearch 53 = .ok (.iload_n 2, 1) := by decide +kernel
theorem dX12_fillsSearch_54 : decode cX12_fillsSearch 54 = .ok (.invokevirtual 348, 3) := by decide +kernel
theorem dX12_fillsSearch_57 : decode cX12_fillsSearch 57 = .ok (.istore 4, 2) := by decide +kernel
theorem dX12_fillsSearch_59 : decode cX12_fillsSearch 59 = .ok (.aload_n 0, 1) := by decide +kernel
theorem dX12_fillsSearch_60 : decode cX12_fillsSearch 60 = .ok (.getfield 94, 3) := by decide +kernel
theorem dX12_fillsSearch_63 : decode cX12_fillsSearch 63 = .ok (.iconst 0, 1) := by decide +kernel
theorem dX12_fillsSearch_64 : decode cX12_fillsSearch 64 = .ok (.dup2, 1) := by decide +kernel
theorem dX12_fillsSearch_65 : decode cX12_fillsSearch 65 = .ok (.iaload, 1) := by decide +kernel
theorem dX12_fillsSearch_66 : decode cX12_fillsSearch 66 = .ok (.iconst 1, 1) := by decide +kernel
theorem dX12_fillsSearch_67 : decode cX12_fillsSearch 67 = .ok (.iadd, 1) := by decide +kernel
theorem dX12_fillsSearch_68 : decode cX12_fillsSearch 68 = .ok (.iastore, 1) := by decide +kernel
theorem dX12_fillsSearch_69 : decode cX12_fillsSearch 69 = .ok (.aload_n 0, 1) := by decide +kernel
theorem dX12_fillsSearch_70 : decode cX12_fillsSearch 70 = .ok (.getfield 94, 3) := by decide +kernel
theorem dX12_fillsSearch_73 : decode cX12_fillsSearch 73 = .ok (.iload 4, 2) := by decide +kernel
theorem dX12_fillsSearch_75 : decode cX12_fillsSearch 75 = .ok (.ifCond .ne 8, 3) := by decide +kernel
theorem dX12_fillsSearch_78 : decode cX12_fillsSearch 78 = .ok (.bipush 7, 2) := by decide +kernel
theorem dX12_fillsSearch_80 : decode cX12_fillsSearch 80 = .ok (.goto 5, 3) := by decide +kernel
theorem dX12_fillsSearch_83 : decode cX12_fillsSearch 83 = .ok (.iload 4, 2) := by decide +kernel
theorem dX12_fillsSearch_85 : decode cX12_fillsSearch 85 = .ok (.dup2, 1) := by decide +kernel
theorem dX12_fillsSearch_86 : decode cX12_fillsSearch 86 = .ok (.iaload, 1) := by decide +kernel
theorem dX12_fillsSearch_87 : decode cX12_fillsSearch 87 = .ok (.iconst 1, 1) := by decide +kernel
theorem dX12_fillsSearch_88 : decode cX12_fillsSearch 88 = .ok (.iadd, 1) := by decide +kernel
theorem dX12_fillsSearch_89 : decode cX12_fillsSearch 89 = .ok (.iastore, 1) := by decide +kernel
theorem dX12_fillsSearch_90 : decode cX12_fillsSearch 90 = .ok (.aload_n 0, 1) := by decide +kernel
theorem dX12_fillsSearch_91 : decode cX12_fillsSearch 91 = .ok (.getfield 94, 3) := by decide +kernel
theorem dX12_fillsSearch_94 : decode cX12_fillsSearch 94 = .ok (.bipush 6, 2) := by decide +kernel
theorem dX12_fillsSearch_96 : decode cX12_fillsSearch 96 = .ok (.dup2, 1) := by decide +kernel
theorem dX12_fillsSearch_97 : decode cX12_fillsSearch 97 = .ok (.iaload, 1) := by decide +kernel
theorem dX12_fillsSearch_98 : decode cX12_fillsSearch 98 = .ok (.aload_n 0, 1) := by decide +kernel
theorem dX12_fillsSearch_99 : decode cX12_fillsSearch 99 = .ok (.getfield 292, 3) := by decide +kernel
theorem dX12_fillsSearch_102 : decode cX12_fillsSearch 102 = .ok (.iadd, 1) := by decide +kernel
theorem dX12_fillsSearch_103 : decode cX12_fillsSearch 103 = .ok (.iastore, 1) := by decide +kernel
theorem dX12_fillsSearch_104 : decode cX12_fillsSearch 104 = .ok (.iload 4, 2) := by decide +kernel
theorem dX12_fillsSearch_106 : decode cX12_fillsSearch 106 = .ok (.iconst 4, 1) := by decide +kernel
theorem dX12_fillsSearch_107 : decode cX12_fillsSearch 107 = .ok (.if_icmp .ne 19, 3) := by decide +kernel
theorem dX12_fillsSearch_110 : decode cX12_fillsSearch 110 = .ok (.aload_n 0, 1) := by decide +kernel
theorem dX12_fillsSearch_111 : decode cX12_fillsSearch 111 = .ok (.getfield 94, 3) := by decide +kernel
theorem dX12_fillsSearch_114 : decode cX12_fillsSearch 114 = .ok (.bipush 8, 2) := by decide +kernel
theorem dX12_fillsSearch_116 : decode cX12_fillsSearch 116 = .ok (.dup2, 1) := by decide +kernel
theorem dX12_fillsSearch_117 : decode cX12_fillsSearch 117 = .ok (.iaload, 1) := by decide +kernel
theorem dX12_fillsSearch_118 : decode cX12_fillsSearch 118 = .ok (.aload_n 0, 1) := by decide +kernel
theorem dX12_fillsSearch_119 : decode cX12_fillsSearch 119 = .ok (.getfield 295, 3) := by decide +kernel
theorem dX12_fillsSearch_122 : decode cX12_fillsSearch 122 = .ok (.iconst 1, 1) := by decide +kernel
theorem dX12_fillsSearch_123 : decode cX12_fillsSearch 123 = .ok (.iadd, 1) := by decide +kernel
theorem dX12_fillsSearch_124 : decode cX12_fillsSearch 124 = .ok (.iadd, 1) := by decide +kernel
theorem dX12_fillsSearch_125 : decode cX12_fillsSearch 125 = .ok (.iastore, 1) := by decide +kernel
theorem dX12_fillsSearch_126 : decode cX12_fillsSearch 126 = .ok (.iload 4, 2) := by decide +kernel
theorem dX12_fillsSearch_128 : decode cX12_fillsSearch 128 = .ok (.ifCond .ne 8, 3) := by decide +kernel
theorem dX12_fillsSearch_131 : decode cX12_fillsSearch 131 = .ok (.aload_n 0, 1) := by decide +kernel
theorem dX12_fillsSearch_132 : decode cX12_fillsSearch 132 = .ok (.getfield 311, 3) := by decide +kernel
theorem dX12_fillsSearch_135 : decode cX12_fillsSearch 135 = .ok (.istore_n 2, 1) := by decide +kernel
theorem dX12_fillsSearch_136 : decode cX12_fillsSearch 136 = .ok (.iinc 3 1, 3) := by decide +kernel
theorem dX12_fillsSearch_139 : decode cX12_fillsSearch 139 = .ok (.goto (-108), 3) := by decide +kernel
theorem dX12_fillsSearch_142 : decode cX12_fillsSearch 142 = .ok (.return_, 1) := by decide +kernel
set_option maxRecDepth 20000 in
theorem ggX12_search_X12_isQuery : GoodIn wsX12_search wsX12_isQuery := goodIn_r _ [6, 7, 8, 9, 10, 5, 11, 108, 109, 110, 111, 112, 113, 114, 115, 116, 117, 118, 119, 120, 121, 122, 123, 124, 125, 126, 127, 128, 129, 130, 131, 132, 133, 134, 135, 136, 137, 138, 139, 140, 141, 142, 143, 144, 145, 146, 147, 148, 149, 150, 151, 152, 153, 154, 155, 156, 157, 158, 159, 160, 161, 162] (by decide +kernel) (by decide +kernel)
set_option maxRecDepth 20000 in
theorem gX12_search_X12_isQuery : GoodIn wsX12_search (wsV RX12 251 RX12 yX12_isQuery wsX12_isQuery) := goodIn_app (goodIn_of _ (by decide +kernel)) ggX12_search_X12_isQuery
set_option maxRecDepth 20000 in
theorem ggX12_search_X12_in : GoodIn wsX12_search wsX12_in := goodIn_r _ [11] (by decide +kernel) (by decide +kernel)
set_option maxRecDepth 20000 in
theorem gX12_search_X12_in : GoodIn wsX12_search (va_wsS RX12 244 yX12_in wsX12_in) := goodIn_app (goodIn_of _ (by decide +kernel)) ggX12_search_X12_in
set_option maxRecDepth 20000 in
theorem ggX12_search_X12_fillsSearch : GoodIn wsX12_search wsX12_fillsSearch := goodIn_r _ [15, 1, 16, 17, 18, 19, 20, 21, 22, 5, 23, 24, 25, 26, 27, 28, 29, 2, 3, 4, 6, 7, 8, 9, 10, 11, 30, 31, 32, 33, 34, 35, 36, 37, 38, 39, 40, 41, 42, 43, 44, 45, 46, 47, 48, 49, 50, 51, 52, 53, 54, 55, 56, 57, 58, 59, 60, 61, 62, 63, 64, 65, 66, 67, 68, 69, 70, 71, 72, 73, 74, 75, 76, 77, 78, 79, 80, 81, 82, 83, 84, 85, 86, 87, 88, 89, 90, 91, 92, 93, 94, 95, 96, 97, 98, 99, 100, 101, 102, 103, 104, 105, 106, 107, 108, 109, 110, 111, 112, 113, 114, 115, 116, 117, 118, 119, 120, 121, 122, 123, 124, 125, 126, 127, 128, 129, 130, 131, 132, 133, 134, 135, 136, 137, 138, 139, 140, 141, 142, 143, 144, 145, 146, 147, 148, 149, 150, 151, 152, 153, 154, 155, 156, 157, 158, 159, 160, 161, 162] (by decide +kernel) (by decide +kernel)
set_option maxRecDepth 20000 in
theorem gX12_search_X12_fillsSearch : GoodIn wsX12_search (wsV RX12 363 RX12 yX12_fillsSearch wsX12_fillsSearch) := goodIn_app (goodIn_of _ (by decide +kernel)) ggX12_search_X12_fillsSearch
theorem dX12_search_0 : decode cX12_search 0 = .ok (.aload_n 0, 1) := by decide +kernel
theorem dX12_search_1 : decode cX12_search 1 = .ok (.iload_n 1, 1) := by decide +kernel
theorem dX12_search_2 : decode cX12_search 2 = .ok (.invokevirtual 251, 3) := by decide +kernel
theorem dX12_search_5 : decode cX12_search 5 = .ok (.ifCond .eq 13, 3) := by decide +kernel
theorem dX12_search_8 : decode cX12_search 8 = .ok (.iload_n 2, 1) := by decide +kernel
theorem dX12_search_9 : decode cX12_search 9 = .ok (.iconst 0, 1) := by decide +kernel
theorem dX12_search_10 : decode cX12_search 10 = .ok (.bipush 8, 2) := by decide +kernel
theorem dX12_search_12 : decode cX12_search 12 = .ok (.invokestatic 244, 3) := by decide +kernel
theorem dX12_search_15 : decode cX12_search 15 = .ok (.ifCond .ne 5, 3) := by decide +kernel
theorem dX12_search_18 : decode cX12_search 18 = .ok (.iconst (-1), 1) := by decide +kernel
theorem dX12_search_19 : decode cX12_search 19 = .ok (.ireturn, 1) := by decide +kernel
theorem dX12_search_20 : decode cX12_search 20 = .ok (.aload_n 0, 1) := by decide +kernel
theorem dX12_search_21 : decode cX12_search 21 = .ok (.iload_n 1, 1) := by decide +kernel
theorem dX12_search_22 : decode cX12_search 22 = .ok (.invokevirtual 363, 3) := by decide +kernel
theorem dX12_search_25 : decode cX12_search 25 = .ok (.aload_n 0, 1) := by decide +kernel
theorem dX12_search_26 : decode cX12_search 26 = .ok (.getfield 94, 3) := by decide +kernel
theorem dX12_search_29 : decode cX12_search 29 = .ok (.iload_n 2, 1) := by decide +kernel
theorem dX12_search_30 : decode cX12_search 30 = .ok (.iaload, 1) := by decide +kernel
theorem dX12_search_31 : decode cX12_search 31 = .ok (.ireturn, 1) := by decide +kernel
set_option maxRecDepth 20000 in
theorem ggX12_isApart_X12_in : GoodIn wsX12_isApart wsX12_in := goodIn_r _ [7] (by decide +kernel) (by decide +kernel)
set_option maxRecDepth 20000 in
theorem gX12_isApart_X12_in : GoodIn wsX12_isApart (va_wsS RX12 244 yX12_in wsX12_in) := goodIn_app (goodIn_of _ (by decide +kernel)) ggX12_isApart_X12_in
theorem dX12_isApart_0 : decode cX12_isApart 0 = .ok (.iconst 0, 1) := by decide +kernel
theorem dX12_isApart_1 : decode cX12_isApart 1 = .ok (.istore_n 2, 1) := by decide +kernel
theorem dX12_isApart_2 : decode cX12_isApart 2 = .ok (.iload_n 2, 1) := by decide +kernel
theorem dX12_isApart_3 : decode cX12_isApart 3 = .ok (.aload_n 0, 1) := by decide +kernel
theorem dX12_isApart_4 : decode cX12_isApart 4 = .ok (.getfield 366, 3) := by decide +kernel
theorem dX12_isApart_7 : decode cX12_isApart 7 = .ok (.if_icmp .ge 45, 3) := by decide +kernel
theorem dX12_isApart_10 : decode cX12_isApart 10 = .ok (.iload_n 1, 1) := by decide +kernel
theorem dX12_isApart_11 : decode cX12_isApart 11 = .ok (.aload_n 0, 1) := by decide +kernel
theorem dX12_isApart_12 : decode cX12_isApart 12 = .ok (.getfield 97, 3) := by decide +kernel
theorem dX12_isApart_15 : decode cX12_isApart 15 = .ok (.iload_n 2, 1) := by decide +kernel
theorem dX12_isApart_16 : decode cX12_isApart 16 = .ok (.iaload, 1) := by decide +kernel
theorem dX12_isApart_17 : decode cX12_isApart 17 = .ok (.isub, 1) := by decide +kernel
theorem dX12_isApart_18 : decode cX12_isApart 18 = .ok (.iconst 1, 1) := by decide +kernel
theorem dX12_isApart_19 : decode cX12_isApart 19 = .ok (.aload_n 0, 1) := by decide +kernel
theorem dX12_isApart_20 : decode cX12_isApart 20 = .ok (.getfield 73, 3) := by decide +kernel
theorem dX12_isApart_23 : decode cX12_isApart 23 = .ok (.sipush 164, 3) := by decide +kernel
theorem dX12_isApart_26 : decode cX12_isApart 26 = .ok (.iaload, 1) := by decide +kernel
theorem dX12_isApart_27 : decode cX12_isApart 27 = .ok (.isub, 1) := by decide +kernel
theorem dX12_isApart_28 : decode cX12_isApart 28 = .ok (.aload_n 0, 1) := by decide +kernel
theorem dX12_isApart_29 : decode cX12_isApart 29 = .ok (.getfield 73, 3) := by decide +kernel
theorem dX12_isApart_32 : decode cX12_isApart 32 = .ok (.sipush 164, 3) := by decide +kernel
theorem dX12_isApart_35 : decode cX12_isApart 35 = .ok (.iaload, 1) := by decide +kernel
theorem dX12_isApart_36 : decode cX12_isApart 36 = .ok (.iconst 1, 1) := by decide +kernel
theorem dX12_isApart_37 : decode cX12_isApart 37 = .ok (.isub, 1) := by decide +kernel
theorem dX12_isApart_38 : decode cX12_isApart 38 = .ok (.invokestatic 244, 3) := by decide +kernel
theorem dX12_isApart_41 : decode cX12_isApart 41 = .ok (.ifCond .eq 5, 3) := by decide +kernel
theorem dX12_isApart_44 : decode cX12_isApart 44 = .ok (.iconst 0, 1) := by decide +kernel
theorem dX12_isApart_45 : decode cX12_isApart 45 = .ok (.ireturn, 1) := by decide +kernel
theorem dX12_isApart_46 : decode cX12_isApart 46 = .ok (.iinc 2 1, 3) := by decide +kernel
theorem dX12_isApart_49 : decode cX12_isApart 49 = .ok (.goto (-47), 3) := by decide +kernel
theorem dX12_isApart_52 : decode cX12_isApart 52 = .ok (.iconst 1, 1) := by decide +kernel
theorem dX12_isApart_53 : decode cX12_isApart 53 = .ok (.ireturn, 1) := by decide +kernel
set_option maxRecDepth 20000 in
theorem ggX12_fillsMatches_X12_fillsFar : GoodIn wsX12_fillsMatches wsX12_fillsFar := goodIn_r _ [8, 2, 9, 10, 11, 7, 12, 13, 14, 15, 16, 17, 18, 19, 20, 21, 22, 23, 24, 25, 26, 27, 28, 29, 30, 31, 32, 33, 34, 35, 36, 37, 38, 39, 40, 41, 42, 43, 44, 45, 46, 47, 48, 49, 50, 51, 52, 53, 54, 55, 56, 57, 58, 59, 60, 61, 62, 63, 64, 65, 66, 67, 68, 69, 70, 71, 72, 73, 74, 75, 76, 77, 78, 79, 80, 81, 82, 83, 84, 85, 86, 87, 88, 89, 90, 91, 92, 93, 94, 95, 100, 101, 102, 103, 104, 105, 106, 107, 108, 109, 110, 111, 112, 113, 114, 115, 116, 117, 118, 119, 120, 121, 122, 123, 124, 125, 126, 127, 128, 129, 130, 131, 132, 133, 134, 135, 136, 137, 138, 139, 140, 141, 142, 143, 144, 145, 146, 147, 148, 149, 150, 151, 152, 153, 154] (by decide +kernel) (by decide +kernel)
set_option maxRecDepth 20000 in
theorem gX12_fillsMatches_X12_fillsFar : GoodIn wsX12_fillsMatches (wsV RX12 357 RX12 yX12_fillsFar wsX12_fillsFar) := goodIn_app (goodIn_of _ (by decide +kernel)) ggX12_fillsMatches_X12_fillsFar
set_option maxRecDepth 20000 in
theorem ggX12_fillsMatches_X12_isApart : GoodIn wsX12_fillsMatches wsX12_isApart := goodIn_r _ [99, 1, 3, 13, 25, 26, 7, 27, 100, 101, 102, 103, 104, 105, 106, 107, 108, 109, 110, 111, 112, 113, 114, 115, 116, 117, 118, 119, 120, 121, 122, 123, 124, 125, 126, 127, 128, 129, 130, 131, 132, 133, 134, 135, 136, 137, 138, 139, 140, 141, 142, 143, 144, 145, 146, 147, 148, 149, 150, 151, 152, 153, 154] (by decide +kernel) (by decide +kernel)
set_option maxRecDepth 20000 in
theorem gX12_fillsMatches_X12_isApart : GoodIn wsX12_fillsMatches (wsV RX12 369 RX12 yX12_isApart wsX12_isApart) := goodIn_app (goodIn_of _ (by decide +kernel)) ggX12_fillsMatches_X12_isApart
theorem dX12_fillsMatches_0 : decode cX12_fillsMatches 0 = .ok (.aload_n 0, 1) := by decide +kernel
theorem dX12_fillsMatches_1 : decode cX12_fillsMatches 1 = .ok (.iload_n 1, 1) := by decide +kernel
theorem dX12_fillsMatches_2 : decode cX12_fillsMatches 2 = .ok (.invokevirtual 357, 3) := by decide +kernel
theorem dX12_fillsMatches_5 : decode cX12_fillsMatches 5 = .ok (.aload_n 0, 1) := by decide +kernel
theorem dX12_fillsMatches_6 : decode cX12_fillsMatches 6 = .ok (.iconst 0, 1) := by decide +kernel
theorem dX12_fillsMatches_7 : decode cX12_fillsMatches 7 = .ok (.putfield 366, 3) := by decide +kernel
theorem dX12_fillsMatches_10 : decode cX12_fillsMatches 10 = .ok (.iconst 0, 1) := by decide +kernel
theorem dX12_fillsMatches_11 : decode cX12_fillsMatches 11 = .ok (.istore_n 2, 1) := by decide +kernel
theorem dX12_fillsMatches_12 : decode cX12_fillsMatches 12 = .ok (.iload_n 2, 1) := by decide +kernel
theorem dX12_fillsMatches_13 : decode cX12_fillsMatches 13 = .ok (.ifCond .lt 86, 3) := by decide +kernel
theorem dX12_fillsMatches_16 : decode cX12_fillsMatches 16 = .ok (.iconst (-1), 1) := by decide +kernel
theorem dX12_fillsMatches_17 : decode cX12_fillsMatches 17 = .ok (.istore_n 2, 1) := by decide +kernel
theorem dX12_fillsMatches_18 : decode cX12_fillsMatches 18 = .ok (.iconst 0, 1) := by decide +kernel
theorem dX12_fillsMatches_19 : decode cX12_fillsMatches 19 = .ok (.istore_n 3, 1) := by decide +kernel
theorem dX12_fillsMatches_20 : decode cX12_fillsMatches 20 = .ok (.iload_n 3, 1) := by decide +kernel
theorem dX12_fillsMatches_21 : decode cX12_fillsMatches 21 = .ok (.sipush 160, 3) := by decide +kernel
theorem dX12_fillsMatches_24 : decode cX12_fillsMatches 24 = .ok (.if_icmp .ge 47, 3) := by decide +kernel
theorem dX12_fillsMatches_27 : decode cX12_fillsMatches 27 = .ok (.aload_n 0, 1) := by decide +kernel
theorem dX12_fillsMatches_28 : decode cX12_fillsMatches 28 = .ok (.getfield 91, 3) := by decide +kernel
theorem dX12_fillsMatches_31 : decode cX12_fillsMatches 31 = .ok (.iload_n 3, 1) := by decide +kernel
theorem dX12_fillsMatches_32 : decode cX12_fillsMatches 32 = .ok (.iaload, 1) := by decide +kernel
theorem dX12_fillsMatches_33 : decode cX12_fillsMatches 33 = .ok (.ifCond .lt 32, 3) := by decide +kernel
theorem dX12_fillsMatches_36 : decode cX12_fillsMatches 36 = .ok (.aload_n 0, 1) := by decide +kernel
theorem dX12_fillsMatches_37 : decode cX12_fillsMatches 37 = .ok (.iload_n 3, 1) := by decide +kernel
theorem dX12_fillsMatches_38 : decode cX12_fillsMatches 38 = .ok (.invokevirtual 369, 3) := by decide +kernel
theorem dX12_fillsMatches_41 : decode cX12_fillsMatches 41 = .ok (.ifCond .eq 24, 3) := by decide +kernel
theorem dX12_fillsMatches_44 : decode cX12_fillsMatches 44 = .ok (.iload_n 2, 1) := by decide +kernel
theorem dX12_fillsMatches_45 : decode cX12_fillsMatches 45 = .ok (.ifCond .lt 18, 3) := by decide +kernel
theorem dX12_fillsMatches_48 : decode cX12_fillsMatches 48 = .ok (.aload_n 0, 1) := by decide +kernel
theorem dX12_fillsMatches_49 : decode cX12_fillsMatches 49 = .ok (.getfield 91, 3) := by decide +kernel
theorem dX12_fillsMatches_52 : decode cX12_fillsMatches 52 = .ok (.iload_n 3, 1) := by decide +kernel
theorem dX12_fillsMatches_53 : decode cX12_fillsMatches 53 = .ok (.iaload, 1) := by decide +kernel
theorem dX12_fillsMatches_54 : decode cX12_fillsMatches 54 = .ok (.aload_n 0, 1) := by decide +kernel
theorem dX12_fillsMatches_55 : decode cX12_fillsMatches 55 = .ok (.getfield 91, 3) := by decide +kernel
theorem dX12_fillsMatches_58 : decode cX12_fillsMatches 58 = .ok (.iload_n 2, 1) := by decide +kernel
theorem dX12_fillsMatches_59 : decode cX12_fillsMatches 59 = .ok (.iaload, 1) := by decide +kernel
theorem dX12_fillsMatches_60 : decode cX12_fillsMatches 60 = .ok (.if_icmp .ge 5, 3) := by decide +kernel
theorem dX12_fillsMatches_63 : decode cX12_fillsMatches 63 = .ok (.iload_n 3, 1) := by decide +kernel
theorem dX12_fillsMatches_64 : decode cX12_fillsMatches 64 = .ok (.istore_n 2, 1) := by decide +kernel
theorem dX12_fillsMatches_65 : decode cX12_fillsMatches 65 = .ok (.iinc 3 1, 3) := by decide +kernel
theorem dX12_fillsMatches_68 : decode cX12_fillsMatches 68 = .ok (.goto (-48), 3) := by decide +kernel
theorem dX12_fillsMatches_71 : decode cX12_fillsMatches 71 = .ok (.iload_n 2, 1) := by decide +kernel
theorem dX12_fillsMatches_72 : decode cX12_fillsMatches 72 = .ok (.ifCond .ge 4, 3) := by decide +kernel
theorem dX12_fillsMatches_75 : decode cX12_fillsMatches 75 = .ok (.return_, 1) := by decide +kernel
theorem dX12_fillsMatches_76 : decode cX12_fillsMatches 76 = .ok (.aload_n 0, 1) := by decide +kernel
theorem dX12_fillsMatches_77 : decode cX12_fillsMatches 77 = .ok (.getfield 97, 3) := by decide +kernel
theorem dX12_fillsMatches_80 : decode cX12_fillsMatches 80 = .ok (.aload_n 0, 1) := by decide +kernel
theorem dX12_fillsMatches_81 : decode cX12_fillsMatches 81 = .ok (.getfield 366, 3) := by decide +kernel
theorem dX12_fillsMatches_84 : decode cX12_fillsMatches 84 = .ok (.iload_n 2, 1) := by decide +kernel
theorem dX12_fillsMatches_85 : decode cX12_fillsMatches 85 = .ok (.iastore, 1) := by decide +kernel
theorem dX12_fillsMatches_86 : decode cX12_fillsMatches 86 = .ok (.aload_n 0, 1) := by decide +kernel
theorem dX12_fillsMatches_87 : decode cX12_fillsMatches 87 = .ok (.dup, 1) := by decide +kernel
theorem dX12_fillsMatches_88 : decode cX12_fillsMatches 88 = .ok (.getfield 366, 3) := by decide +kernel
theorem dX12_fillsMatches_91 : decode cX12_fillsMatches 91 = .ok (.iconst 1, 1) := by decide +kernel
theorem dX12_fillsMatches_92 : decode cX12_fillsMatches 92 = .ok (.iadd, 1) := by decide +kernel
theorem dX12_fillsMatches_93 : decode cX12_fillsMatches 93 = .ok (.putfield 366, 3) := by decide +kernel
theorem dX12_fillsMatches_96 : decode cX12_fillsMatches 96 = .ok (.goto (-84), 3) := by decide +kernel
theorem dX12_fillsMatches_99 : decode cX12_fillsMatches 99 = .ok (.return_, 1) := by decide +kernel
set_option maxRecDepth 20000 in
theorem ggX12_match_X12_isQuery : GoodIn wsX12_match wsX12_isQuery := goodIn_r _ [8, 9, 10, 11, 12, 7, 13, 104, 105, 106, 107, 108, 109, 110, 111, 112, 113, 114, 115, 116, 117, 118, 119, 120, 121, 122, 123, 124, 125, 126, 127, 128, 129, 130, 131, 132, 133, 134, 135, 136, 137, 138, 139, 140, 141, 142, 143, 144, 145, 146, 147, 148, 149, 150, 151, 152, 153, 154, 155, 156, 157, 158] (by decide +kernel) (by decide +kernel)
set_option maxRecDepth 20000 in
theorem gX12_match_X12_isQuery : GoodIn wsX12_match (wsV RX12 251 RX12 yX12_isQuery wsX12_isQuery) := goodIn_app (goodIn_of _ (by decide +kernel)) ggX12_match_X12_isQuery
set_option maxRecDepth 20000 in
theorem ggX12_match_X12_in : GoodIn wsX12_match wsX12_in := goodIn_r _ [13] (by decide +kernel) (by decide +kernel)
set_option maxRecDepth 20000 in
theorem gX12_match_X12_in : GoodIn wsX12_match (va_wsS RX12 244 yX12_in wsX12_in) := goodIn_app (goodIn_of _ (by decide +kernel)) ggX12_match_X12_in
set_option maxRecDepth 20000 in
theorem ggX12_match_X12_fillsMatches : GoodIn wsX12_match wsX12_fillsMatches := goodIn_r _ [17, 1, 3, 2, 18, 19, 20, 7, 21, 22, 23, 24, 25, 26, 27, 28, 29, 30, 31, 4, 5, 6, 8, 9, 10, 11, 12, 13, 32, 33, 34, 35, 36, 37, 38, 39, 40, 41, 42, 43, 44, 45, 46, 47, 48, 49, 50, 51, 52, 53, 54, 55, 56, 57, 58, 59, 60, 61, 62, 63, 64, 65, 66, 67, 68, 69, 70, 71, 72, 73, 74, 75, 76, 77, 78, 79, 80, 81, 82, 83, 84, 85, 86, 87, 88, 89, 90, 91, 92, 93, 94, 95, 96, 97, 98, 99, 100, 101, 102, 103, 104, 105, 106, 107, 108, 109, 110, 111, 112, 113, 114, 115, 116, 117, 118, 119, 120, 121, 122, 123, 124, 125, 126, 127, 128, 129, 130, 131, 132, 133, 134, 135, 136, 137, 138, 139, 140, 141, 142, 143, 144, 145, 146, 147, 148, 149, 150, 151, 152, 153, 154, 155, 156, 157, 158] (by decide +kernel) (by decide +kernel)
set_option maxRecDepth 20000 in
theorem gX12_match_X12_fillsMatches : GoodIn wsX12_match (wsV RX12 372 RX12 yX12_fillsMatches wsX12_fillsMatches) := goodIn_app (goodIn_of _ (by decide +kernel)) ggX12_match_X12_fillsMatches
theorem dX12_match_0 : decode cX12_match 0 = .ok (.aload_n 0, 1) := by decide +kernel
theorem dX12_match_1 : decode cX12_match 1 = .ok (.iload_n 1, 1) := by decide +kernel
theorem dX12_match_2 : decode cX12_match 2 = .ok (.invokevirtual 251, 3) := by decide +kernel
theorem dX12_match_5 : decode cX12_match 5 = .ok (.ifCond .eq 16, 3) := by decide +kernel
theorem dX12_match_8 : decode cX12_match 8 = .ok (.iload_n 2, 1) := by decide +kernel
theorem dX12_match_9 : decode cX12_match 9 = .ok (.ifCond .lt 12, 3) := by decide +kernel
theorem dX12_match_12 : decode cX12_match 12 = .ok (.iload_n 3, 1) := by decide +kernel
theorem dX12_match_13 : decode cX12_match 13 = .ok (.iconst 0, 1) := by decide +kernel
theorem dX12_match_14 : decode cX12_match 14 = .ok (.iconst 1, 1) := by decide +kernel
theorem dX12_match_15 : decode cX12_match 15 = .ok (.invokestatic 244, 3) := by decide +kernel
theorem dX12_match_18 : decode cX12_match 18 = .ok (.ifCond .ne 5, 3) := by decide +kernel
theorem dX12_match_21 : decode cX12_match 21 = .ok (.iconst (-1), 1) := by decide +kernel
theorem dX12_match_22 : decode cX12_match 22 = .ok (.ireturn, 1) := by decide +kernel
theorem dX12_match_23 : decode cX12_match 23 = .ok (.aload_n 0, 1) := by decide +kernel
theorem dX12_match_24 : decode cX12_match 24 = .ok (.iload_n 1, 1) := by decide +kernel
theorem dX12_match_25 : decode cX12_match 25 = .ok (.invokevirtual 372, 3) := by decide +kernel
theorem dX12_match_28 : decode cX12_match 28 = .ok (.iload_n 2, 1) := by decide +kernel
theorem dX12_match_29 : decode cX12_match 29 = .ok (.aload_n 0, 1) := by decide +kernel
theorem dX12_match_30 : decode cX12_match 30 = .ok (.getfield 366, 3) := by decide +kernel
theorem dX12_match_33 : decode cX12_match 33 = .ok (.if_icmp .lt 6, 3) := by decide +kernel
theorem dX12_match_36 : decode cX12_match 36 = .ok (.bipush (-2), 2) := by decide +kernel
theorem dX12_match_38 : decode cX12_match 38 = .ok (.ireturn, 1) := by decide +kernel
theorem dX12_match_39 : decode cX12_match 39 = .ok (.iload_n 3, 1) := by decide +kernel
theorem dX12_match_40 : decode cX12_match 40 = .ok (.ifCond .ne 12, 3) := by decide +kernel
theorem dX12_match_43 : decode cX12_match 43 = .ok (.aload_n 0, 1) := by decide +kernel
theorem dX12_match_44 : decode cX12_match 44 = .ok (.getfield 97, 3) := by decide +kernel
theorem dX12_match_47 : decode cX12_match 47 = .ok (.iload_n 2, 1) := by decide +kernel
theorem dX12_match_48 : decode cX12_match 48 = .ok (.iaload, 1) := by decide +kernel
theorem dX12_match_49 : decode cX12_match 49 = .ok (.goto 14, 3) := by decide +kernel
theorem dX12_match_52 : decode cX12_match 52 = .ok (.aload_n 0, 1) := by decide +kernel
theorem dX12_match_53 : decode cX12_match 53 = .ok (.getfield 91, 3) := by decide +kernel
theorem dX12_match_56 : decode cX12_match 56 = .ok (.aload_n 0, 1) := by decide +kernel
theorem dX12_match_57 : decode cX12_match 57 = .ok (.getfield 97, 3) := by decide +kernel
theorem dX12_match_60 : decode cX12_match 60 = .ok (.iload_n 2, 1) := by decide +kernel
theorem dX12_match_61 : decode cX12_match 61 = .ok (.iaload, 1) := by decide +kernel
theorem dX12_match_62 : decode cX12_match 62 = .ok (.iaload, 1) := by decide +kernel
theorem dX12_match_63 : decode cX12_match 63 = .ok (.ireturn, 1) := by decide +kernel
set_option maxRecDepth 20000 in
theorem ggX12_within_X12_isQuery : GoodIn wsX12_within wsX12_isQuery := goodIn_r _ [8, 9, 10, 11, 12, 7, 13, 104, 105, 106, 107, 108, 109, 110, 111, 112, 113, 114, 115, 116, 117, 118, 119, 120, 121, 122, 123, 124, 125, 126, 127, 128, 129, 130, 131, 132, 133, 134, 135, 136, 137, 138, 139, 140, 141, 142, 143, 144, 145, 146, 147, 148, 149, 150, 151, 152, 153, 154, 155, 156, 157, 158] (by decide +kernel) (by decide +kernel)
set_option maxRecDepth 20000 in
theorem gX12_within_X12_isQuery : GoodIn wsX12_within (wsV RX12 251 RX12 yX12_isQuery wsX12_isQuery) := goodIn_app (goodIn_of _ (by decide +kernel)) ggX12_within_X12_isQuery
set_option maxRecDepth 20000 in
theorem ggX12_within_X12_fillsMatches : GoodIn wsX12_within wsX12_fillsMatches := goodIn_r _ [17, 1, 2, 3, 18, 19, 20, 7, 21, 22, 23, 24, 25, 26, 27, 28, 29, 30, 31, 4, 5, 6, 8, 9, 10, 11, 12, 13, 32, 33, 34, 35, 36, 37, 38, 39, 40, 41, 42, 43, 44, 45, 46, 47, 48, 49, 50, 51, 52, 53, 54, 55, 56, 57, 58, 59, 60, 61, 62, 63, 64, 65, 66, 67, 68, 69, 70, 71, 72, 73, 74, 75, 76, 77, 78, 79, 80, 81, 82, 83, 84, 85, 86, 87, 88, 89, 90, 91, 92, 93, 94, 95, 96, 97, 98, 99, 100, 101, 102, 103, 104, 105, 106, 107, 108, 109, 110, 111, 112, 113, 114, 115, 116, 117, 118, 119, 120, 121, 122, 123, 124, 125, 126, 127, 128, 129, 130, 131, 132, 133, 134, 135, 136, 137, 138, 139, 140, 141, 142, 143, 144, 145, 146, 147, 148, 149, 150, 151, 152, 153, 154, 155, 156, 157, 158] (by decide +kernel) (by decide +kernel)
set_option maxRecDepth 20000 in
theorem gX12_within_X12_fillsMatches : GoodIn wsX12_within (wsV RX12 372 RX12 yX12_fillsMatches wsX12_fillsMatches) := goodIn_app (goodIn_of _ (by decide +kernel)) ggX12_within_X12_fillsMatches
theorem dX12_within_0 : decode cX12_within 0 = .ok (.aload_n 0, 1) := by decide +kernel
theorem dX12_within_1 : decode cX12_within 1 = .ok (.iload_n 1, 1) := by decide +kernel
theorem dX12_within_2 : decode cX12_within 2 = .ok (.invokevirtual 251, 3) := by decide +kernel
theorem dX12_within_5 : decode cX12_within 5 = .ok (.ifCond .eq 7, 3) := by decide +kernel
theorem dX12_within_8 : decode cX12_within 8 = .ok (.iload_n 2, 1) := by decide +kernel
theorem dX12_within_9 : decode cX12_within 9 = .ok (.ifCond .ge 5, 3) := by decide +kernel
theorem dX12_within_12 : decode cX12_within 12 = .ok (.iconst (-1), 1) := by decide +kernel
theorem dX12_within_13 : decode cX12_within 13 = .ok (.ireturn, 1) := by decide +kernel
theorem dX12_within_14 : decode cX12_within 14 = .ok (.aload_n 0, 1) := by decide +kernel
theorem dX12_within_15 : decode cX12_within 15 = .ok (.iload_n 1, 1) := by decide +kernel
theorem dX12_within_16 : decode cX12_within 16 = .ok (.invokevirtual 372, 3) := by decide +kernel
theorem dX12_within_19 : decode cX12_within 19 = .ok (.iconst 0, 1) := by decide +kernel
theorem dX12_within_20 : decode cX12_within 20 = .ok (.istore_n 3, 1) := by decide +kernel
theorem dX12_within_21 : decode cX12_within 21 = .ok (.iconst 0, 1) := by decide +kernel
theorem dX12_within_22 : decode cX12_within 22 = .ok (.istore 4, 2) := by decide +kernel
theorem dX12_within_24 : decode cX12_within 24 = .ok (.iload 4, 2) := by decide +kernel
theorem dX12_within_26 : decode cX12_within 26 = .ok (.aload_n 0, 1) := by decide +kernel
theorem dX12_within_27 : decode cX12_within 27 = .ok (.getfield 366, 3) := by decide +kernel
theorem dX12_within_30 : decode cX12_within 30 = .ok (.if_icmp .ge 28, 3) := by decide +kernel
theorem dX12_within_33 : decode cX12_within 33 = .ok (.aload_n 0, 1) := by decide +kernel
theorem dX12_within_34 : decode cX12_within 34 = .ok (.getfield 91, 3) := by decide +kernel
theorem dX12_within_37 : decode cX12_within 37 = .ok (.aload_n 0, 1) := by decide +kernel
theorem dX12_within_38 : decode cX12_within 38 = .ok (.getfield 97, 3) := by decide +kernel
theorem dX12_within_41 : decode cX12_within 41 = .ok (.iload 4, 2) := by decide +kernel
theorem dX12_within_43 : decode cX12_within 43 = .ok (.iaload, 1) := by decide +kernel
theorem dX12_within_44 : decode cX12_within 44 = .ok (.iaload, 1) := by decide +kernel
theorem dX12_within_45 : decode cX12_within 45 = .ok (.iload_n 2, 1) := by decide +kernel
theorem dX12_within_46 : decode cX12_within 46 = .ok (.if_icmp .gt 6, 3) := by decide +kernel
theorem dX12_within_49 : decode cX12_within 49 = .ok (.iinc 3 1, 3) := by decide +kernel
theorem dX12_within_52 : decode cX12_within 52 = .ok (.iinc 4 1, 3) := by decide +kernel
theorem dX12_within_55 : decode cX12_within 55 = .ok (.goto (-31), 3) := by decide +kernel
theorem dX12_within_58 : decode cX12_within 58 = .ok (.iload_n 3, 1) := by decide +kernel
theorem dX12_within_59 : decode cX12_within 59 = .ok (.ireturn, 1) := by decide +kernel
set_option maxRecDepth 20000 in
theorem ggX12_cover_X12_isQuery : GoodIn wsX12_cover wsX12_isQuery := goodIn_r _ [9, 10, 11, 12, 13, 8, 14, 104, 105, 106, 107, 108, 109, 110, 111, 112, 113, 114, 115, 116, 117, 118, 119, 120, 121, 122, 123, 124, 125, 126, 127, 128, 129, 130, 131, 132, 133, 134, 135, 136, 137, 138, 139, 140, 141, 142, 143, 144, 145, 146, 147, 148, 149, 150, 151, 152, 153, 154, 155, 156, 157, 158] (by decide +kernel) (by decide +kernel)
set_option maxRecDepth 20000 in
theorem gX12_cover_X12_isQuery : GoodIn wsX12_cover (wsV RX12 251 RX12 yX12_isQuery wsX12_isQuery) := goodIn_app (goodIn_of _ (by decide +kernel)) ggX12_cover_X12_isQuery
set_option maxRecDepth 20000 in
theorem ggX12_cover_X12_fillsMatches : GoodIn wsX12_cover wsX12_fillsMatches := goodIn_r _ [18, 2, 3, 4, 19, 20, 21, 8, 22, 23, 24, 25, 26, 27, 1, 28, 29, 30, 31, 5, 6, 7, 9, 10, 11, 12, 13, 14, 32, 33, 34, 35, 36, 37, 38, 39, 40, 41, 42, 43, 44, 45, 46, 47, 48, 49, 50, 51, 52, 53, 54, 55, 56, 57, 58, 59, 60, 61, 62, 63, 64, 65, 66, 67, 68, 69, 70, 71, 72, 73, 74, 75, 76, 77, 78, 79, 80, 81, 82, 83, 84, 85, 86, 87, 88, 89, 90, 91, 92, 93, 94, 95, 96, 97, 98, 99, 100, 101, 102, 103, 104, 105, 106, 107, 108, 109, 110, 111, 112, 113, 114, 115, 116, 117, 118, 119, 120, 121, 122, 123, 124, 125, 126, 127, 128, 129, 130, 131, 132, 133, 134, 135, 136, 137, 138, 139, 140, 141, 142, 143, 144, 145, 146, 147, 148, 149, 150, 151, 152, 153, 154, 155, 156, 157, 158] (by decide +kernel) (by decide +kernel)
set_option maxRecDepth 20000 in
theorem gX12_cover_X12_fillsMatches : GoodIn wsX12_cover (wsV RX12 372 RX12 yX12_fillsMatches wsX12_fillsMatches) := goodIn_app (goodIn_of _ (by decide +kernel)) ggX12_cover_X12_fillsMatches
set_option maxRecDepth 20000 in
theorem ggX12_cover_X12_wideOf : GoodIn wsX12_cover wsX12_wideOf := goodIn_r _ [35, 36, 11, 104, 105, 106, 107, 108, 109, 110, 111, 112, 113, 114, 115, 116, 117, 118, 119, 120, 121, 122, 123, 124, 125, 126, 127, 128, 129, 130, 131, 132, 133, 134, 135, 136, 137, 138, 139, 140, 141, 142, 143, 144, 145, 146, 147, 148, 149, 150, 151, 152, 153, 154, 155, 156, 157, 158] (by decide +kernel) (by decide +kernel)
set_option maxRecDepth 20000 in
theorem gX12_cover_X12_wideOf : GoodIn wsX12_cover (wsV RX12 254 RX12 yX12_wideOf wsX12_wideOf) := goodIn_app (goodIn_of _ (by decide +kernel)) ggX12_cover_X12_wideOf
set_option maxRecDepth 20000 in
theorem ggX12_cover_X12_in : GoodIn wsX12_cover wsX12_in := goodIn_r _ [14] (by decide +kernel) (by decide +kernel)
set_option maxRecDepth 20000 in
theorem gX12_cover_X12_in : GoodIn wsX12_cover (va_wsS RX12 244 yX12_in wsX12_in) := goodIn_app (goodIn_of _ (by decide +kernel)) ggX12_cover_X12_in
theorem dX12_cover_0 : decode cX12_cover 0 = .ok (.aload_n 0, 1) := by decide +kernel
theorem dX12_cover_1 : decode cX12_cover 1 = .ok (.iload_n 1, 1) := by decide +kernel
theorem dX12_cover_2 : decode cX12_cover 2 = .ok (.invokevirtual 251, 3) := by decide +kernel
theorem dX12_cover_5 : decode cX12_cover 5 = .ok (.ifCond .eq 7, 3) := by decide +kernel
theorem dX12_cover_8 : decode cX12_cover 8 = .ok (.iload_n 2, 1) := by decide +kernel
