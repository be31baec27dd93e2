theorem dX5_begin_0 : decode cX5_begin 0 = .ok (.aload_n 0, 1) := by decide +kernel
theorem dX5_begin_1 : decode cX5_begin 1 = .ok (.getfield 12, 3) := by decide +kernel
theorem dX5_begin_4 : decode cX5_begin 4 = .ok (.invokevirtual 81, 3) := by decide +kernel
theorem dX5_begin_7 : decode cX5_begin 7 = .ok (.aload_n 0, 1) := by decide +kernel
theorem dX5_begin_8 : decode cX5_begin 8 = .ok (.getfield 21, 3) := by decide +kernel
theorem dX5_begin_11 : decode cX5_begin 11 = .ok (.iconst 0, 1) := by decide +kernel
theorem dX5_begin_12 : decode cX5_begin 12 = .ok (.putfield 84, 3) := by decide +kernel
theorem dX5_begin_15 : decode cX5_begin 15 = .ok (.aload_n 0, 1) := by decide +kernel
theorem dX5_begin_16 : decode cX5_begin 16 = .ok (.iconst 0, 1) := by decide +kernel
theorem dX5_begin_17 : decode cX5_begin 17 = .ok (.putfield 75, 3) := by decide +kernel
theorem dX5_begin_20 : decode cX5_begin 20 = .ok (.aload_n 0, 1) := by decide +kernel
theorem dX5_begin_21 : decode cX5_begin 21 = .ok (.iconst 0, 1) := by decide +kernel
theorem dX5_begin_22 : decode cX5_begin 22 = .ok (.putfield 87, 3) := by decide +kernel
theorem dX5_begin_25 : decode cX5_begin 25 = .ok (.aload_n 0, 1) := by decide +kernel
theorem dX5_begin_26 : decode cX5_begin 26 = .ok (.bipush (-2), 2) := by decide +kernel
theorem dX5_begin_28 : decode cX5_begin 28 = .ok (.putfield 32, 3) := by decide +kernel
theorem dX5_begin_31 : decode cX5_begin 31 = .ok (.aload_n 0, 1) := by decide +kernel
theorem dX5_begin_32 : decode cX5_begin 32 = .ok (.iconst 0, 1) := by decide +kernel
theorem dX5_begin_33 : decode cX5_begin 33 = .ok (.putfield 49, 3) := by decide +kernel
theorem dX5_begin_36 : decode cX5_begin 36 = .ok (.aload_n 0, 1) := by decide +kernel
theorem dX5_begin_37 : decode cX5_begin 37 = .ok (.iconst 0, 1) := by decide +kernel
theorem dX5_begin_38 : decode cX5_begin 38 = .ok (.putfield 78, 3) := by decide +kernel
theorem dX5_begin_41 : decode cX5_begin 41 = .ok (.aload_n 0, 1) := by decide +kernel
theorem dX5_begin_42 : decode cX5_begin 42 = .ok (.iconst (-1), 1) := by decide +kernel
theorem dX5_begin_43 : decode cX5_begin 43 = .ok (.putfield 36, 3) := by decide +kernel
theorem dX5_begin_46 : decode cX5_begin 46 = .ok (.aload_n 0, 1) := by decide +kernel
theorem dX5_begin_47 : decode cX5_begin 47 = .ok (.iconst (-1), 1) := by decide +kernel
theorem dX5_begin_48 : decode cX5_begin 48 = .ok (.putfield 39, 3) := by decide +kernel
theorem dX5_begin_51 : decode cX5_begin 51 = .ok (.aload_n 0, 1) := by decide +kernel
theorem dX5_begin_52 : decode cX5_begin 52 = .ok (.getfield 42, 3) := by decide +kernel
theorem dX5_begin_55 : decode cX5_begin 55 = .ok (.invokevirtual 90, 3) := by decide +kernel
theorem dX5_begin_58 : decode cX5_begin 58 = .ok (.return_, 1) := by decide +kernel
set_option maxRecDepth 20000 in
theorem ggX5_stop_X5_keepFault : GoodIn wsX5_stop wsX5_keepFault := goodIn_r _ [6, 7, 8, 9, 10, 11, 12, 13, 14, 15, 16, 17, 18, 19, 20, 21, 22, 23, 24, 25, 26, 27, 28, 29, 30, 31, 32] (by decide +kernel) (by decide +kernel)
set_option maxRecDepth 20000 in
theorem gX5_stop_X5_keepFault : GoodIn wsX5_stop (wsV RX5 93 RX5 yX5_keepFault wsX5_keepFault) := goodIn_app (goodIn_of _ (by decide +kernel)) ggX5_stop_X5_keepFault
theorem dX5_stop_0 : decode cX5_stop 0 = .ok (.aload_n 0, 1) := by decide +kernel
theorem dX5_stop_1 : decode cX5_stop 1 = .ok (.iconst 1, 1) := by decide +kernel
theorem dX5_stop_2 : decode cX5_stop 2 = .ok (.putfield 49, 3) := by decide +kernel
theorem dX5_stop_5 : decode cX5_stop 5 = .ok (.aload_n 0, 1) := by decide +kernel
theorem dX5_stop_6 : decode cX5_stop 6 = .ok (.iload_n 1, 1) := by decide +kernel
theorem dX5_stop_7 : decode cX5_stop 7 = .ok (.invokevirtual 93, 3) := by decide +kernel
theorem dX5_stop_10 : decode cX5_stop 10 = .ok (.return_, 1) := by decide +kernel
set_option maxRecDepth 20000 in
theorem ggX5_mark_X5_keepFault : GoodIn wsX5_mark wsX5_keepFault := goodIn_r _ [6, 1, 7, 8, 9, 10, 11, 12, 13, 14, 15, 16, 17, 18, 19, 20, 21, 22, 23, 24, 25, 26, 27, 28, 29, 30, 31] (by decide +kernel) (by decide +kernel)
set_option maxRecDepth 20000 in
theorem gX5_mark_X5_keepFault : GoodIn wsX5_mark (wsV RX5 93 RX5 yX5_keepFault wsX5_keepFault) := goodIn_app (goodIn_of _ (by decide +kernel)) ggX5_mark_X5_keepFault
theorem dX5_mark_0 : decode cX5_mark 0 = .ok (.aload_n 0, 1) := by decide +kernel
theorem dX5_mark_1 : decode cX5_mark 1 = .ok (.getfield 78, 3) := by decide +kernel
theorem dX5_mark_4 : decode cX5_mark 4 = .ok (.ifCond .ne 8, 3) := by decide +kernel
theorem dX5_mark_7 : decode cX5_mark 7 = .ok (.aload_n 0, 1) := by decide +kernel
theorem dX5_mark_8 : decode cX5_mark 8 = .ok (.iload_n 1, 1) := by decide +kernel
theorem dX5_mark_9 : decode cX5_mark 9 = .ok (.invokevirtual 93, 3) := by decide +kernel
theorem dX5_mark_12 : decode cX5_mark 12 = .ok (.return_, 1) := by decide +kernel
theorem dX5_keepFault_0 : decode cX5_keepFault 0 = .ok (.aload_n 0, 1) := by decide +kernel
theorem dX5_keepFault_1 : decode cX5_keepFault 1 = .ok (.iload_n 1, 1) := by decide +kernel
theorem dX5_keepFault_2 : decode cX5_keepFault 2 = .ok (.putfield 78, 3) := by decide +kernel
theorem dX5_keepFault_5 : decode cX5_keepFault 5 = .ok (.aload_n 0, 1) := by decide +kernel
theorem dX5_keepFault_6 : decode cX5_keepFault 6 = .ok (.aload_n 0, 1) := by decide +kernel
theorem dX5_keepFault_7 : decode cX5_keepFault 7 = .ok (.getfield 42, 3) := by decide +kernel
theorem dX5_keepFault_10 : decode cX5_keepFault 10 = .ok (.getfield 96, 3) := by decide +kernel
theorem dX5_keepFault_13 : decode cX5_keepFault 13 = .ok (.putfield 36, 3) := by decide +kernel
theorem dX5_keepFault_16 : decode cX5_keepFault 16 = .ok (.aload_n 0, 1) := by decide +kernel
theorem dX5_keepFault_17 : decode cX5_keepFault 17 = .ok (.aload_n 0, 1) := by decide +kernel
theorem dX5_keepFault_18 : decode cX5_keepFault 18 = .ok (.getfield 32, 3) := by decide +kernel
theorem dX5_keepFault_21 : decode cX5_keepFault 21 = .ok (.putfield 39, 3) := by decide +kernel
theorem dX5_keepFault_24 : decode cX5_keepFault 24 = .ok (.return_, 1) := by decide +kernel
set_option maxRecDepth 20000 in
theorem ggX5_mayStand_X5_tellAtHand : GoodIn wsX5_mayStand wsX5_tellAtHand := goodIn_r _ [9, 3, 10, 11, 12, 13, 14, 15, 16, 17, 18, 19, 20, 21, 22, 23, 24, 25, 26, 27, 28, 29, 30, 31, 32, 33, 34, 35, 36, 37, 38, 39, 40, 41, 42, 43, 44, 45, 46, 47, 48, 49, 50, 51, 52, 53, 54, 55, 56, 57, 58, 59, 60, 61, 62, 63, 64, 65, 66, 67, 68, 69, 70, 71, 72, 73, 74, 75, 76, 98, 99, 100, 101, 102, 103, 104, 105, 106, 107, 108, 109, 110, 111, 112, 113, 114, 115, 116, 117] (by decide +kernel) (by decide +kernel)
set_option maxRecDepth 20000 in
theorem gX5_mayStand_X5_tellAtHand : GoodIn wsX5_mayStand (wsV RX5 99 RX5 yX5_tellAtHand wsX5_tellAtHand) := goodIn_app (goodIn_of _ (by decide +kernel)) ggX5_mayStand_X5_tellAtHand
set_option maxRecDepth 20000 in
theorem ggX5_mayStand_X5_mayStandInRow : GoodIn wsX5_mayStand wsX5_mayStandInRow := goodIn_r _ [80, 3, 4, 2, 98, 99, 100, 101, 102, 103, 104, 105, 106, 107, 108, 109, 110, 111, 112, 113, 114, 115, 116, 117] (by decide +kernel) (by decide +kernel)
set_option maxRecDepth 20000 in
theorem gX5_mayStand_X5_mayStandInRow : GoodIn wsX5_mayStand (wsV RX5 103 RX5 yX5_mayStandInRow wsX5_mayStandInRow) := goodIn_app (goodIn_of _ (by decide +kernel)) ggX5_mayStand_X5_mayStandInRow
set_option maxRecDepth 20000 in
theorem ggX5_mayStand_X10_isWord : GoodIn wsX5_mayStand wsX10_isWord := goodIn_r _ [14, 15, 16, 17, 18, 19, 13, 20, 21, 22, 23, 24, 25, 26, 27, 28, 29, 30, 31, 32, 33, 34, 35, 36, 37, 38, 39, 40, 41, 42, 43, 44, 45, 46, 47, 48, 49, 50, 51, 52, 53, 54, 55, 56, 57, 58, 59, 60, 61, 62, 63, 64, 65, 66, 67, 68, 69, 70, 71, 72, 73, 74, 75, 76, 111, 112, 113, 114, 115, 116, 117] (by decide +kernel) (by decide +kernel)
set_option maxRecDepth 20000 in
theorem gX5_mayStand_X10_isWord : GoodIn wsX5_mayStand (wsV RX5 108 RX10 yX10_isWord wsX10_isWord) := goodIn_app (goodIn_of _ (by decide +kernel)) ggX5_mayStand_X10_isWord
set_option maxRecDepth 20000 in
theorem ggX5_mayStand_X5_isNameAtHand : GoodIn wsX5_mayStand wsX5_isNameAtHand := goodIn_r _ [84, 3, 4, 5, 6, 7, 8, 9, 10, 11, 12, 13, 14, 15, 16, 17, 18, 19, 20, 21, 22, 23, 24, 25, 26, 27, 28, 29, 30, 31, 32, 33, 34, 35, 36, 37, 38, 39, 40, 41, 42, 43, 44, 45, 46, 47, 48, 49, 50, 51, 52, 53, 54, 55, 56, 57, 58, 59, 60, 61, 62, 63, 64, 65, 66, 67, 68, 69, 70, 71, 72, 73, 74, 75, 76, 85, 86, 87, 88, 89, 90, 91, 92, 98, 99, 100, 101, 102, 103, 104, 105, 106, 107, 108, 109, 110, 111, 112, 113, 114, 115, 116, 117] (by decide +kernel) (by decide +kernel)
set_option maxRecDepth 20000 in
theorem gX5_mayStand_X5_isNameAtHand : GoodIn wsX5_mayStand (wsV RX5 112 RX5 yX5_isNameAtHand wsX5_isNameAtHand) := goodIn_app (goodIn_of _ (by decide +kernel)) ggX5_mayStand_X5_isNameAtHand
set_option maxRecDepth 20000 in
theorem ggX5_mayStand_X5_choiceAtHand : GoodIn wsX5_mayStand wsX5_choiceAtHand := goodIn_r _ [96, 97, 85, 86, 87, 8, 88, 3, 10, 11, 12, 13, 14, 15, 16, 17, 18, 19, 20, 21, 22, 23, 24, 25, 26, 27, 28, 29, 30, 31, 32, 33, 34, 35, 36, 37, 38, 39, 40, 41, 42, 43, 44, 45, 46, 47, 48, 49, 50, 51, 52, 53, 54, 55, 56, 57, 58, 59, 60, 61, 62, 63, 64, 65, 66, 67, 68, 69, 70, 71, 72, 73, 74, 75, 76, 89, 90, 91, 92, 98, 99, 100, 101, 102, 103, 104, 105, 106, 107, 108, 109, 110, 111, 112, 113, 114, 115, 116, 117] (by decide +kernel) (by decide +kernel)
set_option maxRecDepth 20000 in
theorem gX5_mayStand_X5_choiceAtHand : GoodIn wsX5_mayStand (wsV RX5 115 RX5 yX5_choiceAtHand wsX5_choiceAtHand) := goodIn_app (goodIn_of _ (by decide +kernel)) ggX5_mayStand_X5_choiceAtHand
theorem dX5_mayStand_0 : decode cX5_mayStand 0 = .ok (.aload_n 0, 1) := by decide +kernel
theorem dX5_mayStand_1 : decode cX5_mayStand 1 = .ok (.getfield 75, 3) := by decide +kernel
theorem dX5_mayStand_4 : decode cX5_mayStand 4 = .ok (.tableswitch 125 0 5 #[40, 53, 90, 85, 95, 112], 40) := by decide +kernel
theorem dX5_mayStand_44 : decode cX5_mayStand 44 = .ok (.aload_n 0, 1) := by decide +kernel
theorem dX5_mayStand_45 : decode cX5_mayStand 45 = .ok (.invokevirtual 99, 3) := by decide +kernel
theorem dX5_mayStand_48 : decode cX5_mayStand 48 = .ok (.ifCond .lt 7, 3) := by decide +kernel
theorem dX5_mayStand_51 : decode cX5_mayStand 51 = .ok (.iconst 1, 1) := by decide +kernel
theorem dX5_mayStand_52 : decode cX5_mayStand 52 = .ok (.goto 4, 3) := by decide +kernel
theorem dX5_mayStand_55 : decode cX5_mayStand 55 = .ok (.iconst 0, 1) := by decide +kernel
theorem dX5_mayStand_56 : decode cX5_mayStand 56 = .ok (.ireturn, 1) := by decide +kernel
theorem dX5_mayStand_57 : decode cX5_mayStand 57 = .ok (.aload_n 0, 1) := by decide +kernel
theorem dX5_mayStand_58 : decode cX5_mayStand 58 = .ok (.invokevirtual 103, 3) := by decide +kernel
theorem dX5_mayStand_61 : decode cX5_mayStand 61 = .ok (.ifCond .ne 22, 3) := by decide +kernel
theorem dX5_mayStand_64 : decode cX5_mayStand 64 = .ok (.aload_n 0, 1) := by decide +kernel
theorem dX5_mayStand_65 : decode cX5_mayStand 65 = .ok (.getfield 87, 3) := by decide +kernel
theorem dX5_mayStand_68 : decode cX5_mayStand 68 = .ok (.ifCond .ne 19, 3) := by decide +kernel
theorem dX5_mayStand_71 : decode cX5_mayStand 71 = .ok (.aload_n 0, 1) := by decide +kernel
theorem dX5_mayStand_72 : decode cX5_mayStand 72 = .ok (.getfield 42, 3) := by decide +kernel
theorem dX5_mayStand_75 : decode cX5_mayStand 75 = .ok (.ldc 106, 2) := by decide +kernel
theorem dX5_mayStand_77 : decode cX5_mayStand 77 = .ok (.invokevirtual 108, 3) := by decide +kernel
theorem dX5_mayStand_80 : decode cX5_mayStand 80 = .ok (.ifCond .eq 7, 3) := by decide +kernel
theorem dX5_mayStand_83 : decode cX5_mayStand 83 = .ok (.iconst 1, 1) := by decide +kernel
theorem dX5_mayStand_84 : decode cX5_mayStand 84 = .ok (.goto 4, 3) := by decide +kernel
theorem dX5_mayStand_87 : decode cX5_mayStand 87 = .ok (.iconst 0, 1) := by decide +kernel
theorem dX5_mayStand_88 : decode cX5_mayStand 88 = .ok (.ireturn, 1) := by decide +kernel
theorem dX5_mayStand_89 : decode cX5_mayStand 89 = .ok (.aload_n 0, 1) := by decide +kernel
theorem dX5_mayStand_90 : decode cX5_mayStand 90 = .ok (.invokevirtual 103, 3) := by decide +kernel
theorem dX5_mayStand_93 : decode cX5_mayStand 93 = .ok (.ireturn, 1) := by decide +kernel
theorem dX5_mayStand_94 : decode cX5_mayStand 94 = .ok (.aload_n 0, 1) := by decide +kernel
theorem dX5_mayStand_95 : decode cX5_mayStand 95 = .ok (.invokevirtual 112, 3) := by decide +kernel
theorem dX5_mayStand_98 : decode cX5_mayStand 98 = .ok (.ireturn, 1) := by decide +kernel
theorem dX5_mayStand_99 : decode cX5_mayStand 99 = .ok (.aload_n 0, 1) := by decide +kernel
theorem dX5_mayStand_100 : decode cX5_mayStand 100 = .ok (.getfield 42, 3) := by decide +kernel
theorem dX5_mayStand_103 : decode cX5_mayStand 103 = .ok (.getfield 53, 3) := by decide +kernel
theorem dX5_mayStand_106 : decode cX5_mayStand 106 = .ok (.iconst 2, 1) := by decide +kernel
theorem dX5_mayStand_107 : decode cX5_mayStand 107 = .ok (.if_icmp .ne 7, 3) := by decide +kernel
theorem dX5_mayStand_110 : decode cX5_mayStand 110 = .ok (.iconst 1, 1) := by decide +kernel
theorem dX5_mayStand_111 : decode cX5_mayStand 111 = .ok (.goto 4, 3) := by decide +kernel
theorem dX5_mayStand_114 : decode cX5_mayStand 114 = .ok (.iconst 0, 1) := by decide +kernel
theorem dX5_mayStand_115 : decode cX5_mayStand 115 = .ok (.ireturn, 1) := by decide +kernel
theorem dX5_mayStand_116 : decode cX5_mayStand 116 = .ok (.aload_n 0, 1) := by decide +kernel
theorem dX5_mayStand_117 : decode cX5_mayStand 117 = .ok (.invokevirtual 115, 3) := by decide +kernel
theorem dX5_mayStand_120 : decode cX5_mayStand 120 = .ok (.ifCond .lt 7, 3) := by decide +kernel
theorem dX5_mayStand_123 : decode cX5_mayStand 123 = .ok (.iconst 1, 1) := by decide +kernel
theorem dX5_mayStand_124 : decode cX5_mayStand 124 = .ok (.goto 4, 3) := by decide +kernel
theorem dX5_mayStand_127 : decode cX5_mayStand 127 = .ok (.iconst 0, 1) := by decide +kernel
theorem dX5_mayStand_128 : decode cX5_mayStand 128 = .ok (.ireturn, 1) := by decide +kernel
theorem dX5_mayStand_129 : decode cX5_mayStand 129 = .ok (.aload_n 0, 1) := by decide +kernel
theorem dX5_mayStand_130 : decode cX5_mayStand 130 = .ok (.getfield 42, 3) := by decide +kernel
theorem dX5_mayStand_133 : decode cX5_mayStand 133 = .ok (.getfield 53, 3) := by decide +kernel
theorem dX5_mayStand_136 : decode cX5_mayStand 136 = .ok (.iconst 3, 1) := by decide +kernel
theorem dX5_mayStand_137 : decode cX5_mayStand 137 = .ok (.if_icmp .ne 7, 3) := by decide +kernel
theorem dX5_mayStand_140 : decode cX5_mayStand 140 = .ok (.iconst 1, 1) := by decide +kernel
theorem dX5_mayStand_141 : decode cX5_mayStand 141 = .ok (.goto 4, 3) := by decide +kernel
theorem dX5_mayStand_144 : decode cX5_mayStand 144 = .ok (.iconst 0, 1) := by decide +kernel
theorem dX5_mayStand_145 : decode cX5_mayStand 145 = .ok (.ireturn, 1) := by decide +kernel
set_option maxRecDepth 20000 in
theorem ggX5_isNameAtHand_X5_tellAtHand : GoodIn wsX5_isNameAtHand wsX5_tellAtHand := goodIn_r _ [7, 1, 8, 9, 10, 11, 12, 13, 14, 15, 16, 17, 18, 19, 20, 21, 22, 23, 24, 25, 26, 27, 28, 29, 30, 31, 32, 33, 34, 35, 36, 37, 38, 39, 40, 41, 42, 43, 44, 45, 46, 47, 48, 49, 50, 51, 52, 53, 54, 55, 56, 57, 58, 59, 60, 61, 62, 63, 64, 65, 66, 67, 68, 69, 70, 71, 72, 73, 74, 83, 84, 85, 86, 87, 88, 89, 90, 91, 92, 93, 94, 95, 96, 97, 98, 99, 100, 101, 102] (by decide +kernel) (by decide +kernel)
set_option maxRecDepth 20000 in
theorem gX5_isNameAtHand_X5_tellAtHand : GoodIn wsX5_isNameAtHand (wsV RX5 99 RX5 yX5_tellAtHand wsX5_tellAtHand) := goodIn_app (goodIn_of _ (by decide +kernel)) ggX5_isNameAtHand_X5_tellAtHand
set_option maxRecDepth 20000 in
theorem ggX5_isNameAtHand_X5_levelAtHand : GoodIn wsX5_isNameAtHand wsX5_levelAtHand := goodIn_r _ [78, 1, 8, 9, 10, 11, 12, 13, 14, 15, 16, 17, 18, 19, 20, 21, 22, 23, 24, 25, 26, 27, 28, 29, 30, 31, 32, 33, 34, 35, 36, 37, 38, 39, 40, 41, 42, 43, 44, 45, 46, 47, 48, 49, 50, 51, 52, 53, 54, 55, 56, 57, 58, 59, 60, 61, 62, 63, 64, 65, 66, 67, 68, 69, 70, 71, 72, 73, 74, 83, 84, 85, 86, 87, 88, 89, 90, 91, 92, 93, 94, 95, 96, 97, 98, 99, 100, 101, 102] (by decide +kernel) (by decide +kernel)
set_option maxRecDepth 20000 in
theorem gX5_isNameAtHand_X5_levelAtHand : GoodIn wsX5_isNameAtHand (wsV RX5 118 RX5 yX5_levelAtHand wsX5_levelAtHand) := goodIn_app (goodIn_of _ (by decide +kernel)) ggX5_isNameAtHand_X5_levelAtHand
set_option maxRecDepth 20000 in
theorem ggX5_isNameAtHand_X5_costAtHand : GoodIn wsX5_isNameAtHand wsX5_costAtHand := goodIn_r _ [82, 1, 8, 9, 10, 11, 12, 13, 14, 15, 16, 17, 18, 19, 20, 21, 22, 23, 24, 25, 26, 27, 28, 29, 30, 31, 32, 33, 34, 35, 36, 37, 38, 39, 40, 41, 42, 43, 44, 45, 46, 47, 48, 49, 50, 51, 52, 53, 54, 55, 56, 57, 58, 59, 60, 61, 62, 63, 64, 65, 66, 67, 68, 69, 70, 71, 72, 73, 74, 83, 84, 85, 86, 87, 88, 89, 90, 91, 92, 93, 94, 95, 96, 97, 98, 99, 100, 101, 102] (by decide +kernel) (by decide +kernel)
set_option maxRecDepth 20000 in
theorem gX5_isNameAtHand_X5_costAtHand : GoodIn wsX5_isNameAtHand (wsV RX5 121 RX5 yX5_costAtHand wsX5_costAtHand) := goodIn_app (goodIn_of _ (by decide +kernel)) ggX5_isNameAtHand_X5_costAtHand
set_option maxRecDepth 20000 in
theorem ggX5_isNameAtHand_X10_isWord : GoodIn wsX5_isNameAtHand wsX10_isWord := goodIn_r _ [12, 13, 14, 15, 16, 17, 11, 18, 19, 20, 21, 22, 23, 24, 25, 26, 27, 28, 29, 30, 31, 32, 33, 34, 35, 36, 37, 38, 39, 40, 41, 42, 43, 44, 45, 46, 47, 48, 49, 50, 51, 52, 53, 54, 55, 56, 57, 58, 59, 60, 61, 62, 63, 64, 65, 66, 67, 68, 69, 70, 71, 72, 73, 74, 96, 97, 98, 99, 100, 101, 102] (by decide +kernel) (by decide +kernel)
set_option maxRecDepth 20000 in
theorem gX5_isNameAtHand_X10_isWord : GoodIn wsX5_isNameAtHand (wsV RX5 108 RX10 yX10_isWord wsX10_isWord) := goodIn_app (goodIn_of _ (by decide +kernel)) ggX5_isNameAtHand_X10_isWord
theorem dX5_isNameAtHand_0 : decode cX5_isNameAtHand 0 = .ok (.aload_n 0, 1) := by decide +kernel
theorem dX5_isNameAtHand_1 : decode cX5_isNameAtHand 1 = .ok (.invokevirtual 99, 3) := by decide +kernel
theorem dX5_isNameAtHand_4 : decode cX5_isNameAtHand 4 = .ok (.ifCond .ge 29, 3) := by decide +kernel
theorem dX5_isNameAtHand_7 : decode cX5_isNameAtHand 7 = .ok (.aload_n 0, 1) := by decide +kernel
theorem dX5_isNameAtHand_8 : decode cX5_isNameAtHand 8 = .ok (.invokevirtual 118, 3) := by decide +kernel
theorem dX5_isNameAtHand_11 : decode cX5_isNameAtHand 11 = .ok (.ifCond .ge 22, 3) := by decide +kernel
theorem dX5_isNameAtHand_14 : decode cX5_isNameAtHand 14 = .ok (.aload_n 0, 1) := by decide +kernel
theorem dX5_isNameAtHand_15 : decode cX5_isNameAtHand 15 = .ok (.invokevirtual 121, 3) := by decide +kernel
theorem dX5_isNameAtHand_18 : decode cX5_isNameAtHand 18 = .ok (.ifCond .ge 15, 3) := by decide +kernel
theorem dX5_isNameAtHand_21 : decode cX5_isNameAtHand 21 = .ok (.aload_n 0, 1) := by decide +kernel
theorem dX5_isNameAtHand_22 : decode cX5_isNameAtHand 22 = .ok (.getfield 42, 3) := by decide +kernel
theorem dX5_isNameAtHand_25 : decode cX5_isNameAtHand 25 = .ok (.ldc 106, 2) := by decide +kernel
theorem dX5_isNameAtHand_27 : decode cX5_isNameAtHand 27 = .ok (.invokevirtual 108, 3) := by decide +kernel
theorem dX5_isNameAtHand_30 : decode cX5_isNameAtHand 30 = .ok (.ifCond .eq 7, 3) := by decide +kernel
theorem dX5_isNameAtHand_33 : decode cX5_isNameAtHand 33 = .ok (.iconst 1, 1) := by decide +kernel
theorem dX5_isNameAtHand_34 : decode cX5_isNameAtHand 34 = .ok (.goto 4, 3) := by decide +kernel
theorem dX5_isNameAtHand_37 : decode cX5_isNameAtHand 37 = .ok (.iconst 0, 1) := by decide +kernel
theorem dX5_isNameAtHand_38 : decode cX5_isNameAtHand 38 = .ok (.istore_n 1, 1) := by decide +kernel
theorem dX5_isNameAtHand_39 : decode cX5_isNameAtHand 39 = .ok (.aload_n 0, 1) := by decide +kernel
theorem dX5_isNameAtHand_40 : decode cX5_isNameAtHand 40 = .ok (.getfield 42, 3) := by decide +kernel
theorem dX5_isNameAtHand_43 : decode cX5_isNameAtHand 43 = .ok (.getfield 53, 3) := by decide +kernel
theorem dX5_isNameAtHand_46 : decode cX5_isNameAtHand 46 = .ok (.iconst 1, 1) := by decide +kernel
theorem dX5_isNameAtHand_47 : decode cX5_isNameAtHand 47 = .ok (.if_icmp .ne 11, 3) := by decide +kernel
theorem dX5_isNameAtHand_50 : decode cX5_isNameAtHand 50 = .ok (.iload_n 1, 1) := by decide +kernel
theorem dX5_isNameAtHand_51 : decode cX5_isNameAtHand 51 = .ok (.ifCond .ne 7, 3) := by decide +kernel
theorem dX5_isNameAtHand_54 : decode cX5_isNameAtHand 54 = .ok (.iconst 1, 1) := by decide +kernel
theorem dX5_isNameAtHand_55 : decode cX5_isNameAtHand 55 = .ok (.goto 4, 3) := by decide +kernel
theorem dX5_isNameAtHand_58 : decode cX5_isNameAtHand 58 = .ok (.iconst 0, 1) := by decide +kernel
theorem dX5_isNameAtHand_59 : decode cX5_isNameAtHand 59 = .ok (.ireturn, 1) := by decide +kernel
theorem dX5_mayStandInRow_0 : decode cX5_mayStandInRow 0 = .ok (.aload_n 0, 1) := by decide +kernel
theorem dX5_mayStandInRow_1 : decode cX5_mayStandInRow 1 = .ok (.getfield 42, 3) := by decide +kernel
theorem dX5_mayStandInRow_4 : decode cX5_mayStandInRow 4 = .ok (.getfield 53, 3) := by decide +kernel
theorem dX5_mayStandInRow_7 : decode cX5_mayStandInRow 7 = .ok (.iconst 2, 1) := by decide +kernel
theorem dX5_mayStandInRow_8 : decode cX5_mayStandInRow 8 = .ok (.if_icmp .ne 5, 3) := by decide +kernel
theorem dX5_mayStandInRow_11 : decode cX5_mayStandInRow 11 = .ok (.iconst 1, 1) := by decide +kernel
theorem dX5_mayStandInRow_12 : decode cX5_mayStandInRow 12 = .ok (.ireturn, 1) := by decide +kernel
theorem dX5_mayStandInRow_13 : decode cX5_mayStandInRow 13 = .ok (.aload_n 0, 1) := by decide +kernel
theorem dX5_mayStandInRow_14 : decode cX5_mayStandInRow 14 = .ok (.getfield 87, 3) := by decide +kernel
theorem dX5_mayStandInRow_17 : decode cX5_mayStandInRow 17 = .ok (.ifCond .ne 29, 3) := by decide +kernel
theorem dX5_mayStandInRow_20 : decode cX5_mayStandInRow 20 = .ok (.aload_n 0, 1) := by decide +kernel
theorem dX5_mayStandInRow_21 : decode cX5_mayStandInRow 21 = .ok (.getfield 42, 3) := by decide +kernel
theorem dX5_mayStandInRow_24 : decode cX5_mayStandInRow 24 = .ok (.getfield 53, 3) := by decide +kernel
theorem dX5_mayStandInRow_27 : decode cX5_mayStandInRow 27 = .ok (.iconst 4, 1) := by decide +kernel
theorem dX5_mayStandInRow_28 : decode cX5_mayStandInRow 28 = .ok (.if_icmp .eq 14, 3) := by decide +kernel
theorem dX5_mayStandInRow_31 : decode cX5_mayStandInRow 31 = .ok (.aload_n 0, 1) := by decide +kernel
theorem dX5_mayStandInRow_32 : decode cX5_mayStandInRow 32 = .ok (.getfield 42, 3) := by decide +kernel
theorem dX5_mayStandInRow_35 : decode cX5_mayStandInRow 35 = .ok (.getfield 53, 3) := by decide +kernel
theorem dX5_mayStandInRow_38 : decode cX5_mayStandInRow 38 = .ok (.iconst 3, 1) := by decide +kernel
theorem dX5_mayStandInRow_39 : decode cX5_mayStandInRow 39 = .ok (.if_icmp .ne 7, 3) := by decide +kernel
theorem dX5_mayStandInRow_42 : decode cX5_mayStandInRow 42 = .ok (.iconst 1, 1) := by decide +kernel
theorem dX5_mayStandInRow_43 : decode cX5_mayStandInRow 43 = .ok (.goto 4, 3) := by decide +kernel
theorem dX5_mayStandInRow_46 : decode cX5_mayStandInRow 46 = .ok (.iconst 0, 1) := by decide +kernel
theorem dX5_mayStandInRow_47 : decode cX5_mayStandInRow 47 = .ok (.ireturn, 1) := by decide +kernel
set_option maxRecDepth 20000 in
theorem ggX5_hasRoom_X5_tellAtHand : GoodIn wsX5_hasRoom wsX5_tellAtHand := goodIn_r _ [14, 1, 15, 16, 17, 18, 19, 20, 21, 22, 23, 24, 25, 26, 27, 28, 29, 30, 31, 32, 33, 34, 35, 36, 37, 38, 39, 40, 41, 42, 43, 44, 45, 46, 47, 48, 49, 50, 51, 52, 53, 54, 55, 56, 57, 58, 59, 60, 61, 62, 63, 64, 65, 66, 67, 68, 69, 70, 71, 72, 73, 74, 75, 76, 77, 78, 79, 80, 81, 82, 83, 84, 85, 86, 87, 88, 89, 90, 91, 92, 93, 94, 95, 96, 97, 98, 99, 100, 101] (by decide +kernel) (by decide +kernel)
set_option maxRecDepth 20000 in
theorem gX5_hasRoom_X5_tellAtHand : GoodIn wsX5_hasRoom (wsV RX5 99 RX5 yX5_tellAtHand wsX5_tellAtHand) := goodIn_app (goodIn_of _ (by decide +kernel)) ggX5_hasRoom_X5_tellAtHand
theorem dX5_hasRoom_0 : decode cX5_hasRoom 0 = .ok (.aload_n 0, 1) := by decide +kernel
theorem dX5_hasRoom_1 : decode cX5_hasRoom 1 = .ok (.getfield 42, 3) := by decide +kernel
theorem dX5_hasRoom_4 : decode cX5_hasRoom 4 = .ok (.getfield 124, 3) := by decide +kernel
theorem dX5_hasRoom_7 : decode cX5_hasRoom 7 = .ok (.sipush 400, 3) := by decide +kernel
theorem dX5_hasRoom_10 : decode cX5_hasRoom 10 = .ok (.if_icmp .le 5, 3) := by decide +kernel
theorem dX5_hasRoom_13 : decode cX5_hasRoom 13 = .ok (.iconst 0, 1) := by decide +kernel
theorem dX5_hasRoom_14 : decode cX5_hasRoom 14 = .ok (.ireturn, 1) := by decide +kernel
theorem dX5_hasRoom_15 : decode cX5_hasRoom 15 = .ok (.aload_n 0, 1) := by decide +kernel
theorem dX5_hasRoom_16 : decode cX5_hasRoom 16 = .ok (.getfield 75, 3) := by decide +kernel
theorem dX5_hasRoom_19 : decode cX5_hasRoom 19 = .ok (.tableswitch 110 0 3 #[29, 54, 110, 84], 29) := by decide +kernel
theorem dX5_hasRoom_48 : decode cX5_hasRoom 48 = .ok (.aload_n 0, 1) := by decide +kernel
theorem dX5_hasRoom_49 : decode cX5_hasRoom 49 = .ok (.invokevirtual 99, 3) := by decide +kernel
theorem dX5_hasRoom_52 : decode cX5_hasRoom 52 = .ok (.iconst 5, 1) := by decide +kernel
theorem dX5_hasRoom_53 : decode cX5_hasRoom 53 = .ok (.if_icmp .ne 14, 3) := by decide +kernel
theorem dX5_hasRoom_56 : decode cX5_hasRoom 56 = .ok (.aload_n 0, 1) := by decide +kernel
theorem dX5_hasRoom_57 : decode cX5_hasRoom 57 = .ok (.getfield 21, 3) := by decide +kernel
theorem dX5_hasRoom_60 : decode cX5_hasRoom 60 = .ok (.getfield 84, 3) := by decide +kernel
theorem dX5_hasRoom_63 : decode cX5_hasRoom 63 = .ok (.iconst 5, 1) := by decide +kernel
theorem dX5_hasRoom_64 : decode cX5_hasRoom 64 = .ok (.if_icmp .ge 7, 3) := by decide +kernel
theorem dX5_hasRoom_67 : decode cX5_hasRoom 67 = .ok (.iconst 1, 1) := by decide +kernel
theorem dX5_hasRoom_68 : decode cX5_hasRoom 68 = .ok (.goto 4, 3) := by decide +kernel
theorem dX5_hasRoom_71 : decode cX5_hasRoom 71 = .ok (.iconst 0, 1) := by decide +kernel
theorem dX5_hasRoom_72 : decode cX5_hasRoom 72 = .ok (.ireturn, 1) := by decide +kernel
theorem dX5_hasRoom_73 : decode cX5_hasRoom 73 = .ok (.aload_n 0, 1) := by decide +kernel
theorem dX5_hasRoom_74 : decode cX5_hasRoom 74 = .ok (.getfield 42, 3) := by decide +kernel
theorem dX5_hasRoom_77 : decode cX5_hasRoom 77 = .ok (.getfield 53, 3) := by decide +kernel
theorem dX5_hasRoom_80 : decode cX5_hasRoom 80 = .ok (.iconst 3, 1) := by decide +kernel
theorem dX5_hasRoom_81 : decode cX5_hasRoom 81 = .ok (.if_icmp .eq 16, 3) := by decide +kernel
theorem dX5_hasRoom_84 : decode cX5_hasRoom 84 = .ok (.aload_n 0, 1) := by decide +kernel
theorem dX5_hasRoom_85 : decode cX5_hasRoom 85 = .ok (.getfield 12, 3) := by decide +kernel
theorem dX5_hasRoom_88 : decode cX5_hasRoom 88 = .ok (.getfield 127, 3) := by decide +kernel
theorem dX5_hasRoom_91 : decode cX5_hasRoom 91 = .ok (.sipush 160, 3) := by decide +kernel
theorem dX5_hasRoom_94 : decode cX5_hasRoom 94 = .ok (.if_icmp .ge 7, 3) := by decide +kernel
theorem dX5_hasRoom_97 : decode cX5_hasRoom 97 = .ok (.iconst 1, 1) := by decide +kernel
theorem dX5_hasRoom_98 : decode cX5_hasRoom 98 = .ok (.goto 4, 3) := by decide +kernel
theorem dX5_hasRoom_101 : decode cX5_hasRoom 101 = .ok (.iconst 0, 1) := by decide +kernel
theorem dX5_hasRoom_102 : decode cX5_hasRoom 102 = .ok (.ireturn, 1) := by decide +kernel
theorem dX5_hasRoom_103 : decode cX5_hasRoom 103 = .ok (.aload_n 0, 1) := by decide +kernel
theorem dX5_hasRoom_104 : decode cX5_hasRoom 104 = .ok (.getfield 42, 3) := by decide +kernel
theorem dX5_hasRoom_107 : decode cX5_hasRoom 107 = .ok (.getfield 53, 3) := by decide +kernel
theorem dX5_hasRoom_110 : decode cX5_hasRoom 110 = .ok (.iconst 3, 1) := by decide +kernel
theorem dX5_hasRoom_111 : decode cX5_hasRoom 111 = .ok (.if_icmp .eq 12, 3) := by decide +kernel
theorem dX5_hasRoom_114 : decode cX5_hasRoom 114 = .ok (.aload_n 0, 1) := by decide +kernel
theorem dX5_hasRoom_115 : decode cX5_hasRoom 115 = .ok (.getfield 32, 3) := by decide +kernel
theorem dX5_hasRoom_118 : decode cX5_hasRoom 118 = .ok (.bipush 16, 2) := by decide +kernel
theorem dX5_hasRoom_120 : decode cX5_hasRoom 120 = .ok (.if_icmp .ge 7, 3) := by decide +kernel
theorem dX5_hasRoom_123 : decode cX5_hasRoom 123 = .ok (.iconst 1, 1) := by decide +kernel
theorem dX5_hasRoom_124 : decode cX5_hasRoom 124 = .ok (.goto 4, 3) := by decide +kernel
theorem dX5_hasRoom_127 : decode cX5_hasRoom 127 = .ok (.iconst 0, 1) := by decide +kernel
theorem dX5_hasRoom_128 : decode cX5_hasRoom 128 = .ok (.ireturn, 1) := by decide +kernel
theorem dX5_hasRoom_129 : decode cX5_hasRoom 129 = .ok (.iconst 1, 1) := by decide +kernel
theorem dX5_hasRoom_130 : decode cX5_hasRoom 130 = .ok (.ireturn, 1) := by decide +kernel
set_option maxRecDepth 20000 in
theorem ggX5_accept_X5_beginTell : GoodIn wsX5_accept wsX5_beginTell := goodIn_r _ [9, 4, 1, 10, 11, 12, 13, 8, 14, 15, 16, 17, 18, 19, 20, 21, 22, 23, 24, 25, 26, 27, 28, 29, 30, 31, 32, 33, 34, 35, 36, 37, 38, 39, 40, 41, 42, 43, 44, 45, 46, 47, 48, 49, 50, 51, 52, 53, 54, 55, 56, 57, 58, 59, 60, 61, 62, 63, 64, 65, 66, 67, 68, 69, 70, 71, 72, 73, 74, 75, 76, 77, 78, 79, 80, 81, 82, 169, 170, 171, 172, 173, 174, 175, 176, 177, 178, 179, 180, 181, 186, 187, 188, 189, 190, 191, 192] (by decide +kernel) (by decide +kernel)
set_option maxRecDepth 20000 in
theorem gX5_accept_X5_beginTell : GoodIn wsX5_accept (wsV RX5 128 RX5 yX5_beginTell wsX5_beginTell) := goodIn_app (goodIn_of _ (by decide +kernel)) ggX5_accept_X5_beginTell
set_option maxRecDepth 20000 in
theorem ggX5_accept_X5_acceptName : GoodIn wsX5_accept wsX5_acceptName := goodIn_r _ [86, 87, 88, 15, 89, 90, 91, 1, 92, 93, 94, 19, 95, 22, 23, 24, 25, 26, 27, 40, 41, 42, 43, 44, 45, 96, 97, 98, 8, 99, 100, 101, 102, 103, 104, 105, 10, 106, 107, 108, 109, 110, 111, 112, 113, 114, 169, 170, 171, 172, 173, 174, 175, 176, 177, 178, 179, 180, 181, 193, 194, 195, 186, 187, 188, 189, 190, 191, 192] (by decide +kernel) (by decide +kernel)
set_option maxRecDepth 20000 in
theorem gX5_accept_X5_acceptName : GoodIn wsX5_accept (wsV RX5 131 RX5 yX5_acceptName wsX5_acceptName) := goodIn_app (goodIn_of _ (by decide +kernel)) ggX5_accept_X5_acceptName
set_option maxRecDepth 20000 in
theorem ggX5_accept_X5_acceptNumber : GoodIn wsX5_accept wsX5_acceptNumber := goodIn_r _ [118, 4, 15, 119, 2, 3, 1, 120, 121, 122, 123, 124, 125, 96, 97, 98, 8, 99, 100, 101, 102, 103, 104, 91, 105, 10, 106, 126, 127, 128, 129, 130, 169, 170, 171, 172, 173, 174, 175, 176, 177, 178, 179, 180, 181, 186, 187, 188, 189, 190, 191, 192, 182, 183, 184, 185, 196] (by decide +kernel) (by decide +kernel)
set_option maxRecDepth 20000 in
theorem gX5_accept_X5_acceptNumber : GoodIn wsX5_accept (wsV RX5 134 RX5 yX5_acceptNumber wsX5_acceptNumber) := goodIn_app (goodIn_of _ (by decide +kernel)) ggX5_accept_X5_acceptNumber
set_option maxRecDepth 20000 in
theorem ggX5_accept_X5_choiceAtHand : GoodIn wsX5_accept wsX5_choiceAtHand := goodIn_r _ [134, 4, 135, 136, 137, 8, 138, 15, 16, 17, 18, 19, 20, 21, 22, 23, 24, 25, 26, 27, 28, 29, 30, 31, 32, 33, 34, 35, 36, 37, 38, 39, 40, 41, 42, 43, 44, 45, 46, 47, 48, 49, 50, 51, 52, 53, 54, 55, 56, 57, 58, 59, 60, 61, 62, 63, 64, 65, 66, 67, 68, 69, 70, 71, 72, 73, 74, 75, 76, 77, 78, 79, 80, 81, 82, 139, 140, 141, 142, 169, 170, 171, 172, 173, 174, 175, 176, 177, 178, 179, 180, 181, 186, 187, 188, 189, 190, 191, 192] (by decide +kernel) (by decide +kernel)
set_option maxRecDepth 20000 in
theorem gX5_accept_X5_choiceAtHand : GoodIn wsX5_accept (wsV RX5 115 RX5 yX5_choiceAtHand wsX5_choiceAtHand) := goodIn_app (goodIn_of _ (by decide +kernel)) ggX5_accept_X5_choiceAtHand
set_option maxRecDepth 20000 in
theorem ggX5_accept_X7_put : GoodIn wsX5_accept wsX7_put := goodIn_r _ [129, 130, 196] (by decide +kernel) (by decide +kernel)
set_option maxRecDepth 20000 in
theorem gX5_accept_X7_put : GoodIn wsX5_accept (wsV RX5 144 RX7 yX7_put wsX7_put) := goodIn_app (goodIn_of _ (by decide +kernel)) ggX5_accept_X7_put
set_option maxRecDepth 20000 in
theorem ggX5_accept_X5_acceptInRow : GoodIn wsX5_accept wsX5_acceptInRow := goodIn_r _ [146, 15, 147, 1, 10, 148, 119, 96, 97, 98, 8, 99, 100, 101, 102, 103, 104, 91, 105, 106, 149, 150, 151, 152, 2, 87, 153, 154, 155, 156, 157, 158, 159, 160, 161, 162, 111, 163, 113, 114, 164, 165, 166, 167, 168, 169, 170, 171, 172, 173, 174, 175, 176, 177, 178, 179, 180, 181, 186, 187, 188, 189, 190, 191, 192, 182, 183, 184, 185, 193, 194, 195] (by decide +kernel) (by decide +kernel)
set_option maxRecDepth 20000 in
theorem gX5_accept_X5_acceptInRow : GoodIn wsX5_accept (wsV RX5 150 RX5 yX5_acceptInRow wsX5_acceptInRow) := goodIn_app (goodIn_of _ (by decide +kernel)) ggX5_accept_X5_acceptInRow
theorem dX5_accept_0 : decode cX5_accept 0 = .ok (.aload_n 0, 1) := by decide +kernel
theorem dX5_accept_1 : decode cX5_accept 1 = .ok (.getfield 75, 3) := by decide +kernel
theorem dX5_accept_4 : decode cX5_accept 4 = .ok (.tableswitch 100 0 6 #[44, 100, 51, 100, 58, 65, 92], 44) := by decide +kernel
theorem dX5_accept_48 : decode cX5_accept 48 = .ok (.aload_n 0, 1) := by decide +kernel
theorem dX5_accept_49 : decode cX5_accept 49 = .ok (.invokevirtual 128, 3) := by decide +kernel
theorem dX5_accept_52 : decode cX5_accept 52 = .ok (.goto 56, 3) := by decide +kernel
theorem dX5_accept_55 : decode cX5_accept 55 = .ok (.aload_n 0, 1) := by decide +kernel
theorem dX5_accept_56 : decode cX5_accept 56 = .ok (.invokevirtual 131, 3) := by decide +kernel
theorem dX5_accept_59 : decode cX5_accept 59 = .ok (.goto 49, 3) := by decide +kernel
theorem dX5_accept_62 : decode cX5_accept 62 = .ok (.aload_n 0, 1) := by decide +kernel
theorem dX5_accept_63 : decode cX5_accept 63 = .ok (.invokevirtual 134, 3) := by decide +kernel
theorem dX5_accept_66 : decode cX5_accept 66 = .ok (.goto 42, 3) := by decide +kernel
theorem dX5_accept_69 : decode cX5_accept 69 = .ok (.aload_n 0, 1) := by decide +kernel
theorem dX5_accept_70 : decode cX5_accept 70 = .ok (.getfield 12, 3) := by decide +kernel
theorem dX5_accept_73 : decode cX5_accept 73 = .ok (.getfield 137, 3) := by decide +kernel
theorem dX5_accept_76 : decode cX5_accept 76 = .ok (.aload_n 0, 1) := by decide +kernel
theorem dX5_accept_77 : decode cX5_accept 77 = .ok (.getfield 141, 3) := by decide +kernel
theorem dX5_accept_80 : decode cX5_accept 80 = .ok (.aload_n 0, 1) := by decide +kernel
theorem dX5_accept_81 : decode cX5_accept 81 = .ok (.invokevirtual 115, 3) := by decide +kernel
theorem dX5_accept_84 : decode cX5_accept 84 = .ok (.invokevirtual 144, 3) := by decide +kernel
theorem dX5_accept_87 : decode cX5_accept 87 = .ok (.aload_n 0, 1) := by decide +kernel
theorem dX5_accept_88 : decode cX5_accept 88 = .ok (.bipush 6, 2) := by decide +kernel
theorem dX5_accept_90 : decode cX5_accept 90 = .ok (.putfield 75, 3) := by decide +kernel
theorem dX5_accept_93 : decode cX5_accept 93 = .ok (.goto 15, 3) := by decide +kernel
theorem dX5_accept_96 : decode cX5_accept 96 = .ok (.aload_n 0, 1) := by decide +kernel
theorem dX5_accept_97 : decode cX5_accept 97 = .ok (.iconst 0, 1) := by decide +kernel
theorem dX5_accept_98 : decode cX5_accept 98 = .ok (.putfield 75, 3) := by decide +kernel
theorem dX5_accept_101 : decode cX5_accept 101 = .ok (.goto 7, 3) := by decide +kernel
theorem dX5_accept_104 : decode cX5_accept 104 = .ok (.aload_n 0, 1) := by decide +kernel
theorem dX5_accept_105 : decode cX5_accept 105 = .ok (.invokevirtual 150, 3) := by decide +kernel
theorem dX5_accept_108 : decode cX5_accept 108 = .ok (.return_, 1) := by decide +kernel
set_option maxRecDepth 20000 in
theorem ggX5_tellAtHand_X10_isWord : GoodIn wsX5_tellAtHand wsX10_isWord := goodIn_r _ [6, 7, 8, 9, 10, 11, 5, 12, 13, 14, 15, 16, 17, 18, 19, 20, 21, 22, 23, 24, 25, 26, 27, 28, 29, 30, 31, 32, 33, 34, 35, 36, 37, 38, 39, 40, 41, 42, 43, 44, 45, 46, 47, 48, 49, 50, 51, 52, 53, 54, 55, 56, 57, 58, 59, 60, 61, 62, 63, 64, 65, 66, 67, 68, 82, 83, 84, 85, 86, 87, 88] (by decide +kernel) (by decide +kernel)
set_option maxRecDepth 20000 in
theorem gX5_tellAtHand_X10_isWord : GoodIn wsX5_tellAtHand (wsV RX5 108 RX10 yX10_isWord wsX10_isWord) := goodIn_app (goodIn_of _ (by decide +kernel)) ggX5_tellAtHand_X10_isWord
theorem dX5_tellAtHand_0 : decode cX5_tellAtHand 0 = .ok (.aload_n 0, 1) := by decide +kernel
theorem dX5_tellAtHand_1 : decode cX5_tellAtHand 1 = .ok (.getfield 42, 3) := by decide +kernel
theorem dX5_tellAtHand_4 : decode cX5_tellAtHand 4 = .ok (.ldc 153, 2) := by decide +kernel
theorem dX5_tellAtHand_6 : decode cX5_tellAtHand 6 = .ok (.invokevirtual 108, 3) := by decide +kernel
theorem dX5_tellAtHand_9 : decode cX5_tellAtHand 9 = .ok (.ifCond .eq 5, 3) := by decide +kernel
theorem dX5_tellAtHand_12 : decode cX5_tellAtHand 12 = .ok (.iconst 4, 1) := by decide +kernel
theorem dX5_tellAtHand_13 : decode cX5_tellAtHand 13 = .ok (.ireturn, 1) := by decide +kernel
theorem dX5_tellAtHand_14 : decode cX5_tellAtHand 14 = .ok (.aload_n 0, 1) := by decide +kernel
theorem dX5_tellAtHand_15 : decode cX5_tellAtHand 15 = .ok (.getfield 42, 3) := by decide +kernel
theorem dX5_tellAtHand_18 : decode cX5_tellAtHand 18 = .ok (.ldc 155, 2) := by decide +kernel
theorem dX5_tellAtHand_20 : decode cX5_tellAtHand 20 = .ok (.invokevirtual 108, 3) := by decide +kernel
theorem dX5_tellAtHand_23 : decode cX5_tellAtHand 23 = .ok (.ifCond .eq 5, 3) := by decide +kernel
theorem dX5_tellAtHand_26 : decode cX5_tellAtHand 26 = .ok (.iconst 5, 1) := by decide +kernel
theorem dX5_tellAtHand_27 : decode cX5_tellAtHand 27 = .ok (.ireturn, 1) := by decide +kernel
theorem dX5_tellAtHand_28 : decode cX5_tellAtHand 28 = .ok (.aload_n 0, 1) := by decide +kernel
theorem dX5_tellAtHand_29 : decode cX5_tellAtHand 29 = .ok (.getfield 42, 3) := by decide +kernel
theorem dX5_tellAtHand_32 : decode cX5_tellAtHand 32 = .ok (.ldc 157, 2) := by decide +kernel
theorem dX5_tellAtHand_34 : decode cX5_tellAtHand 34 = .ok (.invokevirtual 108, 3) := by decide +kernel
theorem dX5_tellAtHand_37 : decode cX5_tellAtHand 37 = .ok (.ifCond .eq 5, 3) := by decide +kernel
theorem dX5_tellAtHand_40 : decode cX5_tellAtHand 40 = .ok (.iconst 0, 1) := by decide +kernel
theorem dX5_tellAtHand_41 : decode cX5_tellAtHand 41 = .ok (.ireturn, 1) := by decide +kernel
theorem dX5_tellAtHand_42 : decode cX5_tellAtHand 42 = .ok (.aload_n 0, 1) := by decide +kernel
theorem dX5_tellAtHand_43 : decode cX5_tellAtHand 43 = .ok (.getfield 42, 3) := by decide +kernel
theorem dX5_tellAtHand_46 : decode cX5_tellAtHand 46 = .ok (.ldc 159, 2) := by decide +kernel
theorem dX5_tellAtHand_48 : decode cX5_tellAtHand 48 = .ok (.invokevirtual 108, 3) := by decide +kernel
theorem dX5_tellAtHand_51 : decode cX5_tellAtHand 51 = .ok (.ifCond .eq 5, 3) := by decide +kernel
theorem dX5_tellAtHand_54 : decode cX5_tellAtHand 54 = .ok (.iconst 1, 1) := by decide +kernel
theorem dX5_tellAtHand_55 : decode cX5_tellAtHand 55 = .ok (.ireturn, 1) := by decide +kernel
theorem dX5_tellAtHand_56 : decode cX5_tellAtHand 56 = .ok (.aload_n 0, 1) := by decide +kernel
theorem dX5_tellAtHand_57 : decode cX5_tellAtHand 57 = .ok (.getfield 42, 3) := by decide +kernel
theorem dX5_tellAtHand_60 : decode cX5_tellAtHand 60 = .ok (.ldc 161, 2) := by decide +kernel
theorem dX5_tellAtHand_62 : decode cX5_tellAtHand 62 = .ok (.invokevirtual 108, 3) := by decide +kernel
theorem dX5_tellAtHand_65 : decode cX5_tellAtHand 65 = .ok (.ifCond .eq 5, 3) := by decide +kernel
theorem dX5_tellAtHand_68 : decode cX5_tellAtHand 68 = .ok (.iconst 2, 1) := by decide +kernel
theorem dX5_tellAtHand_69 : decode cX5_tellAtHand 69 = .ok (.ireturn, 1) := by decide +kernel
theorem dX5_tellAtHand_70 : decode cX5_tellAtHand 70 = .ok (.aload_n 0, 1) := by decide +kernel
theorem dX5_tellAtHand_71 : decode cX5_tellAtHand 71 = .ok (.getfield 42, 3) := by decide +kernel
theorem dX5_tellAtHand_74 : decode cX5_tellAtHand 74 = .ok (.ldc 163, 2) := by decide +kernel
theorem dX5_tellAtHand_76 : decode cX5_tellAtHand 76 = .ok (.invokevirtual 108, 3) := by decide +kernel
theorem dX5_tellAtHand_79 : decode cX5_tellAtHand 79 = .ok (.ifCond .eq 7, 3) := by decide +kernel
theorem dX5_tellAtHand_82 : decode cX5_tellAtHand 82 = .ok (.iconst 3, 1) := by decide +kernel
theorem dX5_tellAtHand_83 : decode cX5_tellAtHand 83 = .ok (.goto 4, 3) := by decide +kernel
theorem dX5_tellAtHand_86 : decode cX5_tellAtHand 86 = .ok (.iconst (-1), 1) := by decide +kernel
theorem dX5_tellAtHand_87 : decode cX5_tellAtHand 87 = .ok (.ireturn, 1) := by decide +kernel
set_option maxRecDepth 20000 in
theorem ggX5_choiceAtHand_X5_levelAtHand : GoodIn wsX5_choiceAtHand wsX5_levelAtHand := goodIn_r _ [6, 7, 8, 9, 10, 11, 12, 13, 14, 15, 16, 17, 18, 19, 20, 21, 22, 23, 24, 25, 26, 27, 28, 29, 30, 31, 32, 33, 34, 35, 36, 37, 38, 39, 40, 41, 42, 43, 44, 45, 46, 47, 48, 49, 50, 51, 52, 53, 54, 55, 56, 57, 58, 59, 60, 61, 62, 63, 64, 65, 66, 67, 68, 69, 70, 71, 72, 73, 74, 79, 80, 81, 82, 83, 84, 85, 86, 87, 88, 89, 90, 91, 92, 93, 94, 95, 96, 97, 98] (by decide +kernel) (by decide +kernel)
set_option maxRecDepth 20000 in
theorem gX5_choiceAtHand_X5_levelAtHand : GoodIn wsX5_choiceAtHand (wsV RX5 118 RX5 yX5_levelAtHand wsX5_levelAtHand) := goodIn_app (goodIn_of _ (by decide +kernel)) ggX5_choiceAtHand_X5_levelAtHand
set_option maxRecDepth 20000 in
theorem ggX5_choiceAtHand_X5_costAtHand : GoodIn wsX5_choiceAtHand wsX5_costAtHand := goodIn_r _ [78, 7, 8, 9, 10, 11, 12, 13, 14, 15, 16, 17, 18, 19, 20, 21, 22, 23, 24, 25, 26, 27, 28, 29, 30, 31, 32, 33, 34, 35, 36, 37, 38, 39, 40, 41, 42, 43, 44, 45, 46, 47, 48, 49, 50, 51, 52, 53, 54, 55, 56, 57, 58, 59, 60, 61, 62, 63, 64, 65, 66, 67, 68, 69, 70, 71, 72, 73, 74, 79, 80, 81, 82, 83, 84, 85, 86, 87, 88, 89, 90, 91, 92, 93, 94, 95, 96, 97, 98] (by decide +kernel) (by decide +kernel)
set_option maxRecDepth 20000 in
theorem gX5_choiceAtHand_X5_costAtHand : GoodIn wsX5_choiceAtHand (wsV RX5 121 RX5 yX5_costAtHand wsX5_costAtHand) := goodIn_app (goodIn_of _ (by decide +kernel)) ggX5_choiceAtHand_X5_costAtHand
theorem dX5_choiceAtHand_0 : decode cX5_choiceAtHand 0 = .ok (.aload_n 0, 1) := by decide +kernel
theorem dX5_choiceAtHand_1 : decode cX5_choiceAtHand 1 = .ok (.getfield 141, 3) := by decide +kernel
theorem dX5_choiceAtHand_4 : decode cX5_choiceAtHand 4 = .ok (.iconst 1, 1) := by decide +kernel
theorem dX5_choiceAtHand_5 : decode cX5_choiceAtHand 5 = .ok (.if_icmp .ne 10, 3) := by decide +kernel
theorem dX5_choiceAtHand_8 : decode cX5_choiceAtHand 8 = .ok (.aload_n 0, 1) := by decide +kernel
theorem dX5_choiceAtHand_9 : decode cX5_choiceAtHand 9 = .ok (.invokevirtual 118, 3) := by decide +kernel
theorem dX5_choiceAtHand_12 : decode cX5_choiceAtHand 12 = .ok (.goto 7, 3) := by decide +kernel
theorem dX5_choiceAtHand_15 : decode cX5_choiceAtHand 15 = .ok (.aload_n 0, 1) := by decide +kernel
theorem dX5_choiceAtHand_16 : decode cX5_choiceAtHand 16 = .ok (.invokevirtual 121, 3) := by decide +kernel
theorem dX5_choiceAtHand_19 : decode cX5_choiceAtHand 19 = .ok (.ireturn, 1) := by decide +kernel
set_option maxRecDepth 20000 in
theorem ggX5_levelAtHand_X10_isWord : GoodIn wsX5_levelAtHand wsX10_isWord := goodIn_r _ [6, 7, 8, 9, 10, 11, 5, 12, 13, 14, 15, 16, 17, 18, 19, 20, 21, 22, 23, 24, 25, 26, 27, 28, 29, 30, 31, 32, 33, 34, 35, 36, 37, 38, 39, 40, 41, 42, 43, 44, 45, 46, 47, 48, 49, 50, 51, 52, 53, 54, 55, 56, 57, 58, 59, 60, 61, 62, 63, 64, 65, 66, 67, 68, 82, 83, 84, 85, 86, 87, 88] (by decide +kernel) (by decide +kernel)
set_option maxRecDepth 20000 in
theorem gX5_levelAtHand_X10_isWord : GoodIn wsX5_levelAtHand (wsV RX5 108 RX10 yX10_isWord wsX10_isWord) := goodIn_app (goodIn_of _ (by decide +kernel)) ggX5_levelAtHand_X10_isWord
theorem dX5_levelAtHand_0 : decode cX5_levelAtHand 0 = .ok (.aload_n 0, 1) := by decide +kernel
theorem dX5_levelAtHand_1 : decode cX5_levelAtHand 1 = .ok (.getfield 42, 3) := by decide +kernel
theorem dX5_levelAtHand_4 : decode cX5_levelAtHand 4 = .ok (.ldc 165, 2) := by decide +kernel
theorem dX5_levelAtHand_6 : decode cX5_levelAtHand 6 = .ok (.invokevirtual 108, 3) := by decide +kernel
theorem dX5_levelAtHand_9 : decode cX5_levelAtHand 9 = .ok (.ifCond .eq 5, 3) := by decide +kernel
theorem dX5_levelAtHand_12 : decode cX5_levelAtHand 12 = .ok (.iconst 0, 1) := by decide +kernel
theorem dX5_levelAtHand_13 : decode cX5_levelAtHand 13 = .ok (.ireturn, 1) := by decide +kernel
theorem dX5_levelAtHand_14 : decode cX5_levelAtHand 14 = .ok (.aload_n 0, 1) := by decide +kernel
theorem dX5_levelAtHand_15 : decode cX5_levelAtHand 15 = .ok (.getfield 42, 3) := by decide +kernel
theorem dX5_levelAtHand_18 : decode cX5_levelAtHand 18 = .ok (.ldc 167, 2) := by decide +kernel
theorem dX5_levelAtHand_20 : decode cX5_levelAtHand 20 = .ok (.invokevirtual 108, 3) := by decide +kernel
theorem dX5_levelAtHand_23 : decode cX5_levelAtHand 23 = .ok (.ifCond .eq 5, 3) := by decide +kernel
theorem dX5_levelAtHand_26 : decode cX5_levelAtHand 26 = .ok (.iconst 1, 1) := by decide +kernel
theorem dX5_levelAtHand_27 : decode cX5_levelAtHand 27 = .ok (.ireturn, 1) := by decide +kernel
theorem dX5_levelAtHand_28 : decode cX5_levelAtHand 28 = .ok (.aload_n 0, 1) := by decide +kernel
theorem dX5_levelAtHand_29 : decode cX5_levelAtHand 29 = .ok (.getfield 42, 3) := by decide +kernel
theorem dX5_levelAtHand_32 : decode cX5_levelAtHand 32 = .ok (.ldc 169, 2) := by decide +kernel
theorem dX5_levelAtHand_34 : decode cX5_levelAtHand 34 = .ok (.invokevirtual 108, 3) := by decide +kernel
theorem dX5_levelAtHand_37 : decode cX5_levelAtHand 37 = .ok (.ifCond .eq 5, 3) := by decide +kernel
theorem dX5_levelAtHand_40 : decode cX5_levelAtHand 40 = .ok (.iconst 2, 1) := by decide +kernel
theorem dX5_levelAtHand_41 : decode cX5_levelAtHand 41 = .ok (.ireturn, 1) := by decide +kernel
theorem dX5_levelAtHand_42 : decode cX5_levelAtHand 42 = .ok (.aload_n 0, 1) := by decide +kernel
theorem dX5_levelAtHand_43 : decode cX5_levelAtHand 43 = .ok (.getfield 42, 3) := by decide +kernel
theorem dX5_levelAtHand_46 : decode cX5_levelAtHand 46 = .ok (.ldc 171, 2) := by decide +kernel
theorem dX5_levelAtHand_48 : decode cX5_levelAtHand 48 = .ok (.invokevirtual 108, 3) := by decide +kernel
theorem dX5_levelAtHand_51 : decode cX5_levelAtHand 51 = .ok (.ifCond .eq 7, 3) := by decide +kernel
theorem dX5_levelAtHand_54 : decode cX5_levelAtHand 54 = .ok (.iconst 3, 1) := by decide +kernel
theorem dX5_levelAtHand_55 : decode cX5_levelAtHand 55 = .ok (.goto 4, 3) := by decide +kernel
theorem dX5_levelAtHand_58 : decode cX5_levelAtHand 58 = .ok (.iconst (-1), 1) := by decide +kernel
theorem dX5_levelAtHand_59 : decode cX5_levelAtHand 59 = .ok (.ireturn, 1) := by decide +kernel
set_option maxRecDepth 20000 in
theorem ggX5_costAtHand_X10_isWord : GoodIn wsX5_costAtHand wsX10_isWord := goodIn_r _ [6, 7, 8, 9, 10, 11, 5, 12, 13, 14, 15, 16, 17, 18, 19, 20, 21, 22, 23, 24, 25, 26, 27, 28, 29, 30, 31, 32, 33, 34, 35, 36, 37, 38, 39, 40, 41, 42, 43, 44, 45, 46, 47, 48, 49, 50, 51, 52, 53, 54, 55, 56, 57, 58, 59, 60, 61, 62, 63, 64, 65, 66, 67, 68, 82, 83, 84, 85, 86, 87, 88] (by decide +kernel) (by decide +kernel)
set_option maxRecDepth 20000 in
theorem gX5_costAtHand_X10_isWord : GoodIn wsX5_costAtHand (wsV RX5 108 RX10 yX10_isWord wsX10_isWord) := goodIn_app (goodIn_of _ (by decide +kernel)) ggX5_costAtHand_X10_isWord
theorem dX5_costAtHand_0 : decode cX5_costAtHand 0 = .ok (.aload_n 0, 1) := by decide +kernel
theorem dX5_costAtHand_1 : decode cX5_costAtHand 1 = .ok (.getfield 42, 3) := by decide +kernel
theorem dX5_costAtHand_4 : decode cX5_costAtHand 4 = .ok (.ldc 173, 2) := by decide +kernel
theorem dX5_costAtHand_6 : decode cX5_costAtHand 6 = .ok (.invokevirtual 108, 3) := by decide +kernel
theorem dX5_costAtHand_9 : decode cX5_costAtHand 9 = .ok (.ifCond .eq 5, 3) := by decide +kernel
theorem dX5_costAtHand_12 : decode cX5_costAtHand 12 = .ok (.iconst 0, 1) := by decide +kernel
theorem dX5_costAtHand_13 : decode cX5_costAtHand 13 = .ok (.ireturn, 1) := by decide +kernel
theorem dX5_costAtHand_14 : decode cX5_costAtHand 14 = .ok (.aload_n 0, 1) := by decide +kernel
theorem dX5_costAtHand_15 : decode cX5_costAtHand 15 = .ok (.getfield 42, 3) := by decide +kernel
theorem dX5_costAtHand_18 : decode cX5_costAtHand 18 = .ok (.ldc 175, 2) := by decide +kernel
theorem dX5_costAtHand_20 : decode cX5_costAtHand 20 = .ok (.invokevirtual 108, 3) := by decide +kernel
theorem dX5_costAtHand_23 : decode cX5_costAtHand 23 = .ok (.ifCond .eq 7, 3) := by decide +kernel
theorem dX5_costAtHand_26 : decode cX5_costAtHand 26 = .ok (.iconst 1, 1) := by decide +kernel
theorem dX5_costAtHand_27 : decode cX5_costAtHand 27 = .ok (.goto 4, 3) := by decide +kernel
theorem dX5_costAtHand_30 : decode cX5_costAtHand 30 = .ok (.iconst (-1), 1) := by decide +kernel
theorem dX5_costAtHand_31 : decode cX5_costAtHand 31 = .ok (.ireturn, 1) := by decide +kernel
set_option maxRecDepth 20000 in
theorem ggX5_beginTell_X5_tellAtHand : GoodIn wsX5_beginTell wsX5_tellAtHand := goodIn_r _ [8, 9, 10, 11, 12, 13, 14, 15, 16, 17, 18, 19, 20, 21, 22, 23, 24, 25, 26, 27, 28, 29, 30, 31, 32, 33, 34, 35, 36, 37, 38, 39, 40, 41, 42, 43, 44, 45, 46, 47, 48, 49, 50, 51, 52, 53, 54, 55, 56, 57, 58, 59, 60, 61, 62, 63, 64, 65, 66, 67, 68, 69, 70, 71, 72, 73, 74, 75, 76, 77, 78, 79, 80, 81, 82, 83, 84, 85, 86, 87, 88, 89, 90, 91, 92, 93, 94, 95, 96] (by decide +kernel) (by decide +kernel)
set_option maxRecDepth 20000 in
theorem gX5_beginTell_X5_tellAtHand : GoodIn wsX5_beginTell (wsV RX5 99 RX5 yX5_tellAtHand wsX5_tellAtHand) := goodIn_app (goodIn_of _ (by decide +kernel)) ggX5_beginTell_X5_tellAtHand
theorem dX5_beginTell_0 : decode cX5_beginTell 0 = .ok (.aload_n 0, 1) := by decide +kernel
theorem dX5_beginTell_1 : decode cX5_beginTell 1 = .ok (.aload_n 0, 1) := by decide +kernel
theorem dX5_beginTell_2 : decode cX5_beginTell 2 = .ok (.invokevirtual 99, 3) := by decide +kernel
theorem dX5_beginTell_5 : decode cX5_beginTell 5 = .ok (.putfield 141, 3) := by decide +kernel
theorem dX5_beginTell_8 : decode cX5_beginTell 8 = .ok (.aload_n 0, 1) := by decide +kernel
theorem dX5_beginTell_9 : decode cX5_beginTell 9 = .ok (.getfield 141, 3) := by decide +kernel
theorem dX5_beginTell_12 : decode cX5_beginTell 12 = .ok (.tableswitch 74 0 5 #[66, 74, 74, 66, 40, 53], 40) := by decide +kernel
theorem dX5_beginTell_52 : decode cX5_beginTell 52 = .ok (.aload_n 0, 1) := by decide +kernel
theorem dX5_beginTell_53 : decode cX5_beginTell 53 = .ok (.iconst 1, 1) := by decide +kernel
theorem dX5_beginTell_54 : decode cX5_beginTell 54 = .ok (.putfield 75, 3) := by decide +kernel
theorem dX5_beginTell_57 : decode cX5_beginTell 57 = .ok (.aload_n 0, 1) := by decide +kernel
theorem dX5_beginTell_58 : decode cX5_beginTell 58 = .ok (.iconst 0, 1) := by decide +kernel
theorem dX5_beginTell_59 : decode cX5_beginTell 59 = .ok (.putfield 32, 3) := by decide +kernel
theorem dX5_beginTell_62 : decode cX5_beginTell 62 = .ok (.goto 29, 3) := by decide +kernel
theorem dX5_beginTell_65 : decode cX5_beginTell 65 = .ok (.aload_n 0, 1) := by decide +kernel
theorem dX5_beginTell_66 : decode cX5_beginTell 66 = .ok (.iconst 2, 1) := by decide +kernel
theorem dX5_beginTell_67 : decode cX5_beginTell 67 = .ok (.putfield 75, 3) := by decide +kernel
theorem dX5_beginTell_70 : decode cX5_beginTell 70 = .ok (.aload_n 0, 1) := by decide +kernel
theorem dX5_beginTell_71 : decode cX5_beginTell 71 = .ok (.iconst 0, 1) := by decide +kernel
theorem dX5_beginTell_72 : decode cX5_beginTell 72 = .ok (.putfield 32, 3) := by decide +kernel
theorem dX5_beginTell_75 : decode cX5_beginTell 75 = .ok (.goto 16, 3) := by decide +kernel
theorem dX5_beginTell_78 : decode cX5_beginTell 78 = .ok (.aload_n 0, 1) := by decide +kernel
theorem dX5_beginTell_79 : decode cX5_beginTell 79 = .ok (.iconst 4, 1) := by decide +kernel
theorem dX5_beginTell_80 : decode cX5_beginTell 80 = .ok (.putfield 75, 3) := by decide +kernel
theorem dX5_beginTell_83 : decode cX5_beginTell 83 = .ok (.goto 8, 3) := by decide +kernel
theorem dX5_beginTell_86 : decode cX5_beginTell 86 = .ok (.aload_n 0, 1) := by decide +kernel
theorem dX5_beginTell_87 : decode cX5_beginTell 87 = .ok (.iconst 5, 1) := by decide +kernel
theorem dX5_beginTell_88 : decode cX5_beginTell 88 = .ok (.putfield 75, 3) := by decide +kernel
theorem dX5_beginTell_91 : decode cX5_beginTell 91 = .ok (.return_, 1) := by decide +kernel
set_option maxRecDepth 20000 in
theorem ggX5_acceptName_X10_isSameAsAt : GoodIn wsX5_acceptName wsX10_isSameAsAt := goodIn_r _ [12, 13, 14, 15, 16, 11, 17, 18, 19, 20, 21, 22, 23, 24, 62, 63, 64, 65, 66, 67, 68] (by decide +kernel) (by decide +kernel)
set_option maxRecDepth 20000 in
theorem gX5_acceptName_X10_isSameAsAt : GoodIn wsX5_acceptName (wsV RX5 177 RX10 yX10_isSameAsAt wsX10_isSameAsAt) := goodIn_app (goodIn_of _ (by decide +kernel)) ggX5_acceptName_X10_isSameAsAt
set_option maxRecDepth 20000 in
theorem ggX5_acceptName_X5_mark : GoodIn wsX5_acceptName wsX5_mark := goodIn_r _ [29, 30, 31, 32, 33, 28, 34, 3, 6, 35, 36, 37, 46, 47, 48, 49, 50, 51, 52, 53, 54, 55, 56, 57, 58, 62, 63, 64, 65, 66, 67, 68] (by decide +kernel) (by decide +kernel)
set_option maxRecDepth 20000 in
theorem gX5_acceptName_X5_mark : GoodIn wsX5_acceptName (wsV RX5 181 RX5 yX5_mark wsX5_mark) := goodIn_app (goodIn_of _ (by decide +kernel)) ggX5_acceptName_X5_mark
set_option maxRecDepth 20000 in
theorem ggX5_acceptName_X10_lengthAtHand : GoodIn wsX5_acceptName wsX10_lengthAtHand := goodIn_r _ [17, 18, 13, 62, 63, 64, 65, 66, 67, 68] (by decide +kernel) (by decide +kernel)
set_option maxRecDepth 20000 in
theorem gX5_acceptName_X10_lengthAtHand : GoodIn wsX5_acceptName (wsV RX5 184 RX10 yX10_lengthAtHand wsX10_lengthAtHand) := goodIn_app (goodIn_of _ (by decide +kernel)) ggX5_acceptName_X10_lengthAtHand
set_option maxRecDepth 20000 in
theorem ggX5_acceptName_X4_open : GoodIn wsX5_acceptName wsX4_open := goodIn_r _ [43, 44, 45, 59, 60, 61] (by decide +kernel) (by decide +kernel)
set_option maxRecDepth 20000 in
theorem gX5_acceptName_X4_open : GoodIn wsX5_acceptName (wsV RX5 187 RX4 yX4_open wsX4_open) := goodIn_app (goodIn_of _ (by decide +kernel)) ggX5_acceptName_X4_open
theorem dX5_acceptName_0 : decode cX5_acceptName 0 = .ok (.aload_n 0, 1) := by decide +kernel
theorem dX5_acceptName_1 : decode cX5_acceptName 1 = .ok (.getfield 21, 3) := by decide +kernel
theorem dX5_acceptName_4 : decode cX5_acceptName 4 = .ok (.getfield 84, 3) := by decide +kernel
theorem dX5_acceptName_7 : decode cX5_acceptName 7 = .ok (.istore_n 1, 1) := by decide +kernel
theorem dX5_acceptName_8 : decode cX5_acceptName 8 = .ok (.iconst 0, 1) := by decide +kernel
theorem dX5_acceptName_9 : decode cX5_acceptName 9 = .ok (.istore_n 2, 1) := by decide +kernel
theorem dX5_acceptName_10 : decode cX5_acceptName 10 = .ok (.iload_n 2, 1) := by decide +kernel
theorem dX5_acceptName_11 : decode cX5_acceptName 11 = .ok (.iload_n 1, 1) := by decide +kernel
theorem dX5_acceptName_12 : decode cX5_acceptName 12 = .ok (.if_icmp .ge 41, 3) := by decide +kernel
theorem dX5_acceptName_15 : decode cX5_acceptName 15 = .ok (.iload_n 2, 1) := by decide +kernel
theorem dX5_acceptName_16 : decode cX5_acceptName 16 = .ok (.iconst 5, 1) := by decide +kernel
theorem dX5_acceptName_17 : decode cX5_acceptName 17 = .ok (.if_icmp .ge 36, 3) := by decide +kernel
theorem dX5_acceptName_20 : decode cX5_acceptName 20 = .ok (.aload_n 0, 1) := by decide +kernel
theorem dX5_acceptName_21 : decode cX5_acceptName 21 = .ok (.getfield 42, 3) := by decide +kernel
theorem dX5_acceptName_24 : decode cX5_acceptName 24 = .ok (.aload_n 0, 1) := by decide +kernel
theorem dX5_acceptName_25 : decode cX5_acceptName 25 = .ok (.getfield 25, 3) := by decide +kernel
theorem dX5_acceptName_28 : decode cX5_acceptName 28 = .ok (.iload_n 2, 1) := by decide +kernel
theorem dX5_acceptName_29 : decode cX5_acceptName 29 = .ok (.iaload, 1) := by decide +kernel
theorem dX5_acceptName_30 : decode cX5_acceptName 30 = .ok (.aload_n 0, 1) := by decide +kernel
theorem dX5_acceptName_31 : decode cX5_acceptName 31 = .ok (.getfield 29, 3) := by decide +kernel
theorem dX5_acceptName_34 : decode cX5_acceptName 34 = .ok (.iload_n 2, 1) := by decide +kernel
theorem dX5_acceptName_35 : decode cX5_acceptName 35 = .ok (.iaload, 1) := by decide +kernel
theorem dX5_acceptName_36 : decode cX5_acceptName 36 = .ok (.invokevirtual 177, 3) := by decide +kernel
theorem dX5_acceptName_39 : decode cX5_acceptName 39 = .ok (.ifCond .eq 8, 3) := by decide +kernel
theorem dX5_acceptName_42 : decode cX5_acceptName 42 = .ok (.aload_n 0, 1) := by decide +kernel
theorem dX5_acceptName_43 : decode cX5_acceptName 43 = .ok (.iconst 3, 1) := by decide +kernel
theorem dX5_acceptName_44 : decode cX5_acceptName 44 = .ok (.invokevirtual 181, 3) := by decide +kernel
theorem dX5_acceptName_47 : decode cX5_acceptName 47 = .ok (.iinc 2 1, 3) := by decide +kernel
theorem dX5_acceptName_50 : decode cX5_acceptName 50 = .ok (.goto (-40), 3) := by decide +kernel
theorem dX5_acceptName_53 : decode cX5_acceptName 53 = .ok (.iload_n 1, 1) := by decide +kernel
theorem dX5_acceptName_54 : decode cX5_acceptName 54 = .ok (.ifCond .lt 41, 3) := by decide +kernel
theorem dX5_acceptName_57 : decode cX5_acceptName 57 = .ok (.iload_n 1, 1) := by decide +kernel
theorem dX5_acceptName_58 : decode cX5_acceptName 58 = .ok (.iconst 5, 1) := by decide +kernel
theorem dX5_acceptName_59 : decode cX5_acceptName 59 = .ok (.if_icmp .ge 36, 3) := by decide +kernel
theorem dX5_acceptName_62 : decode cX5_acceptName 62 = .ok (.aload_n 0, 1) := by decide +kernel
theorem dX5_acceptName_63 : decode cX5_acceptName 63 = .ok (.getfield 25, 3) := by decide +kernel
theorem dX5_acceptName_66 : decode cX5_acceptName 66 = .ok (.iload_n 1, 1) := by decide +kernel
theorem dX5_acceptName_67 : decode cX5_acceptName 67 = .ok (.aload_n 0, 1) := by decide +kernel
theorem dX5_acceptName_68 : decode cX5_acceptName 68 = .ok (.getfield 42, 3) := by decide +kernel
theorem dX5_acceptName_71 : decode cX5_acceptName 71 = .ok (.getfield 96, 3) := by decide +kernel
theorem dX5_acceptName_74 : decode cX5_acceptName 74 = .ok (.iastore, 1) := by decide +kernel
theorem dX5_acceptName_75 : decode cX5_acceptName 75 = .ok (.aload_n 0, 1) := by decide +kernel
theorem dX5_acceptName_76 : decode cX5_acceptName 76 = .ok (.getfield 29, 3) := by decide +kernel
theorem dX5_acceptName_79 : decode cX5_acceptName 79 = .ok (.iload_n 1, 1) := by decide +kernel
theorem dX5_acceptName_80 : decode cX5_acceptName 80 = .ok (.aload_n 0, 1) := by decide +kernel
theorem dX5_acceptName_81 : decode cX5_acceptName 81 = .ok (.getfield 42, 3) := by decide +kernel
theorem dX5_acceptName_84 : decode cX5_acceptName 84 = .ok (.invokevirtual 184, 3) := by decide +kernel
theorem dX5_acceptName_87 : decode cX5_acceptName 87 = .ok (.iastore, 1) := by decide +kernel
theorem dX5_acceptName_88 : decode cX5_acceptName 88 = .ok (.aload_n 0, 1) := by decide +kernel
theorem dX5_acceptName_89 : decode cX5_acceptName 89 = .ok (.getfield 21, 3) := by decide +kernel
theorem dX5_acceptName_92 : decode cX5_acceptName 92 = .ok (.invokevirtual 187, 3) := by decide +kernel
theorem dX5_acceptName_95 : decode cX5_acceptName 95 = .ok (.aload_n 0, 1) := by decide +kernel
theorem dX5_acceptName_96 : decode cX5_acceptName 96 = .ok (.iconst 3, 1) := by decide +kernel
theorem dX5_acceptName_97 : decode cX5_acceptName 97 = .ok (.putfield 75, 3) := by decide +kernel
theorem dX5_acceptName_100 : decode cX5_acceptName 100 = .ok (.return_, 1) := by decide +kernel
set_option maxRecDepth 20000 in
theorem ggX5_acceptNumber_X7_allows : GoodIn wsX5_acceptNumber wsX7_allows := goodIn_r _ [10, 11, 12] (by decide +kernel) (by decide +kernel)
set_option maxRecDepth 20000 in
theorem gX5_acceptNumber_X7_allows : GoodIn wsX5_acceptNumber (va_wsS RX5 193 yX7_allows wsX7_allows) := goodIn_app (goodIn_of _ (by decide +kernel)) ggX5_acceptNumber_X7_allows
set_option maxRecDepth 20000 in
theorem ggX5_acceptNumber_X5_mark : GoodIn wsX5_acceptNumber wsX5_mark := goodIn_r _ [17, 18, 19, 20, 21, 16, 22, 2, 23, 24, 25, 26, 32, 33, 34, 35, 36, 37, 38, 39, 40, 41, 42, 43, 44, 45, 46, 47, 48, 49, 50, 51] (by decide +kernel) (by decide +kernel)
set_option maxRecDepth 20000 in
theorem gX5_acceptNumber_X5_mark : GoodIn wsX5_acceptNumber (wsV RX5 181 RX5 yX5_mark wsX5_mark) := goodIn_app (goodIn_of _ (by decide +kernel)) ggX5_acceptNumber_X5_mark
set_option maxRecDepth 20000 in
theorem ggX5_acceptNumber_X7_put : GoodIn wsX5_acceptNumber wsX7_put := goodIn_r _ [30, 31, 56] (by decide +kernel) (by decide +kernel)
set_option maxRecDepth 20000 in
theorem gX5_acceptNumber_X7_put : GoodIn wsX5_acceptNumber (wsV RX5 144 RX7 yX7_put wsX7_put) := goodIn_app (goodIn_of _ (by decide +kernel)) ggX5_acceptNumber_X7_put
theorem dX5_acceptNumber_0 : decode cX5_acceptNumber 0 = .ok (.aload_n 0, 1) := by decide +kernel
theorem dX5_acceptNumber_1 : decode cX5_acceptNumber 1 = .ok (.getfield 141, 3) := by decide +kernel
theorem dX5_acceptNumber_4 : decode cX5_acceptNumber 4 = .ok (.aload_n 0, 1) := by decide +kernel
theorem dX5_acceptNumber_5 : decode cX5_acceptNumber 5 = .ok (.getfield 42, 3) := by decide +kernel
theorem dX5_acceptNumber_8 : decode cX5_acceptNumber 8 = .ok (.getfield 190, 3) := by decide +kernel
theorem dX5_acceptNumber_11 : decode cX5_acceptNumber 11 = .ok (.invokestatic 193, 3) := by decide +kernel
theorem dX5_acceptNumber_14 : decode cX5_acceptNumber 14 = .ok (.ifCond .ne 8, 3) := by decide +kernel
theorem dX5_acceptNumber_17 : decode cX5_acceptNumber 17 = .ok (.aload_n 0, 1) := by decide +kernel
theorem dX5_acceptNumber_18 : decode cX5_acceptNumber 18 = .ok (.iconst 5, 1) := by decide +kernel
theorem dX5_acceptNumber_19 : decode cX5_acceptNumber 19 = .ok (.invokevirtual 181, 3) := by decide +kernel
theorem dX5_acceptNumber_22 : decode cX5_acceptNumber 22 = .ok (.aload_n 0, 1) := by decide +kernel
theorem dX5_acceptNumber_23 : decode cX5_acceptNumber 23 = .ok (.getfield 12, 3) := by decide +kernel
theorem dX5_acceptNumber_26 : decode cX5_acceptNumber 26 = .ok (.getfield 137, 3) := by decide +kernel
theorem dX5_acceptNumber_29 : decode cX5_acceptNumber 29 = .ok (.aload_n 0, 1) := by decide +kernel
theorem dX5_acceptNumber_30 : decode cX5_acceptNumber 30 = .ok (.getfield 141, 3) := by decide +kernel
theorem dX5_acceptNumber_33 : decode cX5_acceptNumber 33 = .ok (.aload_n 0, 1) := by decide +kernel
theorem dX5_acceptNumber_34 : decode cX5_acceptNumber 34 = .ok (.getfield 42, 3) := by decide +kernel
theorem dX5_acceptNumber_37 : decode cX5_acceptNumber 37 = .ok (.getfield 190, 3) := by decide +kernel
theorem dX5_acceptNumber_40 : decode cX5_acceptNumber 40 = .ok (.invokevirtual 144, 3) := by decide +kernel
theorem dX5_acceptNumber_43 : decode cX5_acceptNumber 43 = .ok (.aload_n 0, 1) := by decide +kernel
theorem dX5_acceptNumber_44 : decode cX5_acceptNumber 44 = .ok (.bipush 6, 2) := by decide +kernel
theorem dX5_acceptNumber_46 : decode cX5_acceptNumber 46 = .ok (.putfield 75, 3) := by decide +kernel
theorem dX5_acceptNumber_49 : decode cX5_acceptNumber 49 = .ok (.return_, 1) := by decide +kernel
set_option maxRecDepth 20000 in
theorem ggX5_acceptInRow_X5_mark : GoodIn wsX5_acceptInRow wsX5_mark := goodIn_r _ [11, 12, 13, 14, 15, 10, 16, 1, 17, 18, 4, 19, 45, 46, 47, 48, 49, 50, 51, 52, 53, 54, 55, 56, 57, 58, 59, 60, 61, 62, 63, 64] (by decide +kernel) (by decide +kernel)
set_option maxRecDepth 20000 in
theorem gX5_acceptInRow_X5_mark : GoodIn wsX5_acceptInRow (wsV RX5 181 RX5 yX5_mark wsX5_mark) := goodIn_app (goodIn_of _ (by decide +kernel)) ggX5_acceptInRow_X5_mark
set_option maxRecDepth 20000 in
theorem ggX5_acceptInRow_X5_keepInRow : GoodIn wsX5_acceptInRow wsX5_keepInRow := goodIn_r _ [23, 3, 24, 25, 4, 5, 26, 27, 28, 29, 30, 31, 32, 33, 34, 35, 36, 37, 38, 39, 40, 41, 42, 43, 44, 45, 46, 47, 48, 49, 50, 51, 52, 53, 54, 55, 56, 57, 65, 66, 67, 68, 69, 70, 71] (by decide +kernel) (by decide +kernel)
set_option maxRecDepth 20000 in
theorem gX5_acceptInRow_X5_keepInRow : GoodIn wsX5_acceptInRow (wsV RX5 196 RX5 yX5_keepInRow wsX5_keepInRow) := goodIn_app (goodIn_of _ (by decide +kernel)) ggX5_acceptInRow_X5_keepInRow
theorem dX5_acceptInRow_0 : decode cX5_acceptInRow 0 = .ok (.aload_n 0, 1) := by decide +kernel
theorem dX5_acceptInRow_1 : decode cX5_acceptInRow 1 = .ok (.getfield 42, 3) := by decide +kernel
theorem dX5_acceptInRow_4 : decode cX5_acceptInRow 4 = .ok (.getfield 53, 3) := by decide +kernel
theorem dX5_acceptInRow_7 : decode cX5_acceptInRow 7 = .ok (.iconst 3, 1) := by decide +kernel
theorem dX5_acceptInRow_8 : decode cX5_acceptInRow 8 = .ok (.if_icmp .ne 39, 3) := by decide +kernel
theorem dX5_acceptInRow_11 : decode cX5_acceptInRow 11 = .ok (.aload_n 0, 1) := by decide +kernel
theorem dX5_acceptInRow_12 : decode cX5_acceptInRow 12 = .ok (.getfield 75, 3) := by decide +kernel
theorem dX5_acceptInRow_15 : decode cX5_acceptInRow 15 = .ok (.iconst 3, 1) := by decide +kernel
theorem dX5_acceptInRow_16 : decode cX5_acceptInRow 16 = .ok (.if_icmp .ne 17, 3) := by decide +kernel
theorem dX5_acceptInRow_19 : decode cX5_acceptInRow 19 = .ok (.aload_n 0, 1) := by decide +kernel
theorem dX5_acceptInRow_20 : decode cX5_acceptInRow 20 = .ok (.getfield 32, 3) := by decide +kernel
theorem dX5_acceptInRow_23 : decode cX5_acceptInRow 23 = .ok (.iconst 2, 1) := by decide +kernel
theorem dX5_acceptInRow_24 : decode cX5_acceptInRow 24 = .ok (.if_icmp .ge 9, 3) := by decide +kernel
theorem dX5_acceptInRow_27 : decode cX5_acceptInRow 27 = .ok (.aload_n 0, 1) := by decide +kernel
theorem dX5_acceptInRow_28 : decode cX5_acceptInRow 28 = .ok (.bipush 6, 2) := by decide +kernel
theorem dX5_acceptInRow_30 : decode cX5_acceptInRow 30 = .ok (.invokevirtual 181, 3) := by decide +kernel
theorem dX5_acceptInRow_33 : decode cX5_acceptInRow 33 = .ok (.aload_n 0, 1) := by decide +kernel
theorem dX5_acceptInRow_34 : decode cX5_acceptInRow 34 = .ok (.iconst 0, 1) := by decide +kernel
theorem dX5_acceptInRow_35 : decode cX5_acceptInRow 35 = .ok (.putfield 75, 3) := by decide +kernel
theorem dX5_acceptInRow_38 : decode cX5_acceptInRow 38 = .ok (.aload_n 0, 1) := by decide +kernel
theorem dX5_acceptInRow_39 : decode cX5_acceptInRow 39 = .ok (.bipush (-2), 2) := by decide +kernel
theorem dX5_acceptInRow_41 : decode cX5_acceptInRow 41 = .ok (.putfield 32, 3) := by decide +kernel
theorem dX5_acceptInRow_44 : decode cX5_acceptInRow 44 = .ok (.goto 90, 3) := by decide +kernel
theorem dX5_acceptInRow_47 : decode cX5_acceptInRow 47 = .ok (.aload_n 0, 1) := by decide +kernel
theorem dX5_acceptInRow_48 : decode cX5_acceptInRow 48 = .ok (.getfield 42, 3) := by decide +kernel
theorem dX5_acceptInRow_51 : decode cX5_acceptInRow 51 = .ok (.getfield 53, 3) := by decide +kernel
theorem dX5_acceptInRow_54 : decode cX5_acceptInRow 54 = .ok (.iconst 4, 1) := by decide +kernel
theorem dX5_acceptInRow_55 : decode cX5_acceptInRow 55 = .ok (.if_icmp .ne 11, 3) := by decide +kernel
theorem dX5_acceptInRow_58 : decode cX5_acceptInRow 58 = .ok (.aload_n 0, 1) := by decide +kernel
theorem dX5_acceptInRow_59 : decode cX5_acceptInRow 59 = .ok (.iconst 1, 1) := by decide +kernel
theorem dX5_acceptInRow_60 : decode cX5_acceptInRow 60 = .ok (.putfield 87, 3) := by decide +kernel
theorem dX5_acceptInRow_63 : decode cX5_acceptInRow 63 = .ok (.goto 71, 3) := by decide +kernel
theorem dX5_acceptInRow_66 : decode cX5_acceptInRow 66 = .ok (.aload_n 0, 1) := by decide +kernel
theorem dX5_acceptInRow_67 : decode cX5_acceptInRow 67 = .ok (.getfield 42, 3) := by decide +kernel
theorem dX5_acceptInRow_70 : decode cX5_acceptInRow 70 = .ok (.getfield 53, 3) := by decide +kernel
theorem dX5_acceptInRow_73 : decode cX5_acceptInRow 73 = .ok (.iconst 2, 1) := by decide +kernel
theorem dX5_acceptInRow_74 : decode cX5_acceptInRow 74 = .ok (.if_icmp .ne 53, 3) := by decide +kernel
theorem dX5_acceptInRow_77 : decode cX5_acceptInRow 77 = .ok (.aload_n 0, 1) := by decide +kernel
theorem dX5_acceptInRow_78 : decode cX5_acceptInRow 78 = .ok (.getfield 42, 3) := by decide +kernel
theorem dX5_acceptInRow_81 : decode cX5_acceptInRow 81 = .ok (.getfield 190, 3) := by decide +kernel
theorem dX5_acceptInRow_84 : decode cX5_acceptInRow 84 = .ok (.sipush 999, 3) := by decide +kernel
theorem dX5_acceptInRow_87 : decode cX5_acceptInRow 87 = .ok (.if_icmp .le 8, 3) := by decide +kernel
theorem dX5_acceptInRow_90 : decode cX5_acceptInRow 90 = .ok (.aload_n 0, 1) := by decide +kernel
theorem dX5_acceptInRow_91 : decode cX5_acceptInRow 91 = .ok (.iconst 5, 1) := by decide +kernel
theorem dX5_acceptInRow_92 : decode cX5_acceptInRow 92 = .ok (.invokevirtual 181, 3) := by decide +kernel
theorem dX5_acceptInRow_95 : decode cX5_acceptInRow 95 = .ok (.aload_n 0, 1) := by decide +kernel
theorem dX5_acceptInRow_96 : decode cX5_acceptInRow 96 = .ok (.aload_n 0, 1) := by decide +kernel
theorem dX5_acceptInRow_97 : decode cX5_acceptInRow 97 = .ok (.getfield 87, 3) := by decide +kernel
theorem dX5_acceptInRow_100 : decode cX5_acceptInRow 100 = .ok (.ifCond .eq 14, 3) := by decide +kernel
theorem dX5_acceptInRow_103 : decode cX5_acceptInRow 103 = .ok (.aload_n 0, 1) := by decide +kernel
theorem dX5_acceptInRow_104 : decode cX5_acceptInRow 104 = .ok (.getfield 42, 3) := by decide +kernel
theorem dX5_acceptInRow_107 : decode cX5_acceptInRow 107 = .ok (.getfield 190, 3) := by decide +kernel
theorem dX5_acceptInRow_110 : decode cX5_acceptInRow 110 = .ok (.ineg, 1) := by decide +kernel
theorem dX5_acceptInRow_111 : decode cX5_acceptInRow 111 = .ok (.goto 10, 3) := by decide +kernel
theorem dX5_acceptInRow_114 : decode cX5_acceptInRow 114 = .ok (.aload_n 0, 1) := by decide +kernel
theorem dX5_acceptInRow_115 : decode cX5_acceptInRow 115 = .ok (.getfield 42, 3) := by decide +kernel
theorem dX5_acceptInRow_118 : decode cX5_acceptInRow 118 = .ok (.getfield 190, 3) := by decide +kernel
theorem dX5_acceptInRow_121 : decode cX5_acceptInRow 121 = .ok (.invokevirtual 196, 3) := by decide +kernel
theorem dX5_acceptInRow_124 : decode cX5_acceptInRow 124 = .ok (.goto 10, 3) := by decide +kernel
theorem dX5_acceptInRow_127 : decode cX5_acceptInRow 127 = .ok (.aload_n 0, 1) := by decide +kernel
theorem dX5_acceptInRow_128 : decode cX5_acceptInRow 128 = .ok (.sipush (-1000), 3) := by decide +kernel
theorem dX5_acceptInRow_131 : decode cX5_acceptInRow 131 = .ok (.invokevirtual 196, 3) := by decide +kernel
theorem dX5_acceptInRow_134 : decode cX5_acceptInRow 134 = .ok (.return_, 1) := by decide +kernel
set_option maxRecDepth 20000 in
theorem ggX5_keepInRow_X8_append : GoodIn wsX5_keepInRow wsX8_append := goodIn_r _ [10, 11, 12, 38, 39, 40, 41] (by decide +kernel) (by decide +kernel)
set_option maxRecDepth 20000 in
theorem gX5_keepInRow_X8_append : GoodIn wsX5_keepInRow (wsV RX5 199 RX8 yX8_append wsX8_append) := goodIn_app (goodIn_of _ (by decide +kernel)) ggX5_keepInRow_X8_append
set_option maxRecDepth 20000 in
theorem ggX5_keepInRow_X4_append : GoodIn wsX5_keepInRow wsX4_append := goodIn_r _ [17, 18, 19, 20, 21, 22, 23, 16, 24, 42, 43, 44] (by decide +kernel) (by decide +kernel)
set_option maxRecDepth 20000 in
theorem gX5_keepInRow_X4_append : GoodIn wsX5_keepInRow (wsV RX5 202 RX4 yX4_append wsX4_append) := goodIn_app (goodIn_of _ (by decide +kernel)) ggX5_keepInRow_X4_append
theorem dX5_keepInRow_0 : decode cX5_keepInRow 0 = .ok (.aload_n 0, 1) := by decide +kernel
theorem dX5_keepInRow_1 : decode cX5_keepInRow 1 = .ok (.getfield 75, 3) := by decide +kernel
theorem dX5_keepInRow_4 : decode cX5_keepInRow 4 = .ok (.iconst 1, 1) := by decide +kernel
theorem dX5_keepInRow_5 : decode cX5_keepInRow 5 = .ok (.if_icmp .ne 14, 3) := by decide +kernel
theorem dX5_keepInRow_8 : decode cX5_keepInRow 8 = .ok (.aload_n 0, 1) := by decide +kernel
theorem dX5_keepInRow_9 : decode cX5_keepInRow 9 = .ok (.getfield 12, 3) := by decide +kernel
theorem dX5_keepInRow_12 : decode cX5_keepInRow 12 = .ok (.iload_n 1, 1) := by decide +kernel
theorem dX5_keepInRow_13 : decode cX5_keepInRow 13 = .ok (.invokevirtual 199, 3) := by decide +kernel
theorem dX5_keepInRow_16 : decode cX5_keepInRow 16 = .ok (.goto 11, 3) := by decide +kernel
theorem dX5_keepInRow_19 : decode cX5_keepInRow 19 = .ok (.aload_n 0, 1) := by decide +kernel
theorem dX5_keepInRow_20 : decode cX5_keepInRow 20 = .ok (.getfield 21, 3) := by decide +kernel
theorem dX5_keepInRow_23 : decode cX5_keepInRow 23 = .ok (.iload_n 1, 1) := by decide +kernel
theorem dX5_keepInRow_24 : decode cX5_keepInRow 24 = .ok (.invokevirtual 202, 3) := by decide +kernel
theorem dX5_keepInRow_27 : decode cX5_keepInRow 27 = .ok (.aload_n 0, 1) := by decide +kernel
theorem dX5_keepInRow_28 : decode cX5_keepInRow 28 = .ok (.dup, 1) := by decide +kernel
theorem dX5_keepInRow_29 : decode cX5_keepInRow 29 = .ok (.getfield 32, 3) := by decide +kernel
theorem dX5_keepInRow_32 : decode cX5_keepInRow 32 = .ok (.iconst 1, 1) := by decide +kernel
theorem dX5_keepInRow_33 : decode cX5_keepInRow 33 = .ok (.iadd, 1) := by decide +kernel
theorem dX5_keepInRow_34 : decode cX5_keepInRow 34 = .ok (.putfield 32, 3) := by decide +kernel
theorem dX5_keepInRow_37 : decode cX5_keepInRow 37 = .ok (.aload_n 0, 1) := by decide +kernel
theorem dX5_keepInRow_38 : decode cX5_keepInRow 38 = .ok (.iconst 0, 1) := by decide +kernel
theorem dX5_keepInRow_39 : decode cX5_keepInRow 39 = .ok (.putfield 87, 3) := by decide +kernel
theorem dX5_keepInRow_42 : decode cX5_keepInRow 42 = .ok (.return_, 1) := by decide +kernel
theorem dX6_init_0 : decode cX6_init 0 = .ok (.aload_n 0, 1) := by decide +kernel
theorem dX6_init_1 : decode cX6_init 1 = .ok (.invokespecial 5, 3) := by decide +kernel
theorem dX6_init_4 : decode cX6_init 4 = .ok (.aload_n 0, 1) := by decide +kernel
theorem dX6_init_5 : decode cX6_init 5 = .ok (.sipush 256, 3) := by decide +kernel
theorem dX6_init_8 : decode cX6_init 8 = .ok (.newarray .int, 2) := by decide +kernel
theorem dX6_init_10 : decode cX6_init 10 = .ok (.putfield 11, 3) := by decide +kernel
theorem dX6_init_13 : decode cX6_init 13 = .ok (.return_, 1) := by decide +kernel
set_option maxRecDepth 20000 in
theorem ggX6_takeFrom_X8_valueAt : GoodIn wsX6_takeFrom wsX8_valueAt := goodIn_r _ [8, 9, 10, 20, 21, 22, 23] (by decide +kernel) (by decide +kernel)
set_option maxRecDepth 20000 in
theorem gX6_takeFrom_X8_valueAt : GoodIn wsX6_takeFrom (wsV RX6 25 RX8 yX8_valueAt wsX8_valueAt) := goodIn_app (goodIn_of _ (by decide +kernel)) ggX6_takeFrom_X8_valueAt
set_option maxRecDepth 20000 in
theorem ggX6_takeFrom_X6_append : GoodIn wsX6_takeFrom wsX6_append := goodIn_r _ [15, 2, 16, 1, 17, 18, 19] (by decide +kernel) (by decide +kernel)
set_option maxRecDepth 20000 in
theorem gX6_takeFrom_X6_append : GoodIn wsX6_takeFrom (wsV RX6 29 RX6 yX6_append wsX6_append) := goodIn_app (goodIn_of _ (by decide +kernel)) ggX6_takeFrom_X6_append
theorem dX6_takeFrom_0 : decode cX6_takeFrom 0 = .ok (.aload_n 0, 1) := by decide +kernel
theorem dX6_takeFrom_1 : decode cX6_takeFrom 1 = .ok (.iconst 0, 1) := by decide +kernel
theorem dX6_takeFrom_2 : decode cX6_takeFrom 2 = .ok (.putfield 15, 3) := by decide +kernel
theorem dX6_takeFrom_5 : decode cX6_takeFrom 5 = .ok (.aload_n 0, 1) := by decide +kernel
theorem dX6_takeFrom_6 : decode cX6_takeFrom 6 = .ok (.iconst 0, 1) := by decide +kernel
theorem dX6_takeFrom_7 : decode cX6_takeFrom 7 = .ok (.putfield 19, 3) := by decide +kernel
theorem dX6_takeFrom_10 : decode cX6_takeFrom 10 = .ok (.iconst 0, 1) := by decide +kernel
theorem dX6_takeFrom_11 : decode cX6_takeFrom 11 = .ok (.istore_n 2, 1) := by decide +kernel
theorem dX6_takeFrom_12 : decode cX6_takeFrom 12 = .ok (.iload_n 2, 1) := by decide +kernel
theorem dX6_takeFrom_13 : decode cX6_takeFrom 13 = .ok (.aload_n 1, 1) := by decide +kernel
theorem dX6_takeFrom_14 : decode cX6_takeFrom 14 = .ok (.getfield 22, 3) := by decide +kernel
theorem dX6_takeFrom_17 : decode cX6_takeFrom 17 = .ok (.if_icmp .ge 19, 3) := by decide +kernel
theorem dX6_takeFrom_20 : decode cX6_takeFrom 20 = .ok (.aload_n 0, 1) := by decide +kernel
theorem dX6_takeFrom_21 : decode cX6_takeFrom 21 = .ok (.aload_n 1, 1) := by decide +kernel
theorem dX6_takeFrom_22 : decode cX6_takeFrom 22 = .ok (.iload_n 2, 1) := by decide +kernel
theorem dX6_takeFrom_23 : decode cX6_takeFrom 23 = .ok (.invokevirtual 25, 3) := by decide +kernel
theorem dX6_takeFrom_26 : decode cX6_takeFrom 26 = .ok (.invokevirtual 29, 3) := by decide +kernel
theorem dX6_takeFrom_29 : decode cX6_takeFrom 29 = .ok (.pop, 1) := by decide +kernel
theorem dX6_takeFrom_30 : decode cX6_takeFrom 30 = .ok (.iinc 2 1, 3) := by decide +kernel
theorem dX6_takeFrom_33 : decode cX6_takeFrom 33 = .ok (.goto (-21), 3) := by decide +kernel
theorem dX6_takeFrom_36 : decode cX6_takeFrom 36 = .ok (.return_, 1) := by decide +kernel
set_option maxRecDepth 20000 in
theorem ggX6_copyInto_X6_valueAt : GoodIn wsX6_copyInto wsX6_valueAt := goodIn_r _ [7, 2, 8, 9, 21, 22, 23] (by decide +kernel) (by decide +kernel)
set_option maxRecDepth 20000 in
theorem gX6_copyInto_X6_valueAt : GoodIn wsX6_copyInto (wsV RX6 33 RX6 yX6_valueAt wsX6_valueAt) := goodIn_app (goodIn_of _ (by decide +kernel)) ggX6_copyInto_X6_valueAt
set_option maxRecDepth 20000 in
theorem ggX6_copyInto_X8_append : GoodIn wsX6_copyInto wsX8_append := goodIn_r _ [14, 15, 16, 17, 18, 19, 20] (by decide +kernel) (by decide +kernel)
set_option maxRecDepth 20000 in
theorem gX6_copyInto_X8_append : GoodIn wsX6_copyInto (wsV RX6 34 RX8 yX8_append wsX8_append) := goodIn_app (goodIn_of _ (by decide +kernel)) ggX6_copyInto_X8_append
theorem dX6_copyInto_0 : decode cX6_copyInto 0 = .ok (.aload_n 1, 1) := by decide +kernel
theorem dX6_copyInto_1 : decode cX6_copyInto 1 = .ok (.iconst 0, 1) := by decide +kernel
theorem dX6_copyInto_2 : decode cX6_copyInto 2 = .ok (.putfield 22, 3) := by decide +kernel
theorem dX6_copyInto_5 : decode cX6_copyInto 5 = .ok (.iconst 0, 1) := by decide +kernel
theorem dX6_copyInto_6 : decode cX6_copyInto 6 = .ok (.istore_n 2, 1) := by decide +kernel
theorem dX6_copyInto_7 : decode cX6_copyInto 7 = .ok (.iload_n 2, 1) := by decide +kernel
theorem dX6_copyInto_8 : decode cX6_copyInto 8 = .ok (.aload_n 0, 1) := by decide +kernel
theorem dX6_copyInto_9 : decode cX6_copyInto 9 = .ok (.getfield 19, 3) := by decide +kernel
theorem dX6_copyInto_12 : decode cX6_copyInto 12 = .ok (.if_icmp .ge 18, 3) := by decide +kernel
theorem dX6_copyInto_15 : decode cX6_copyInto 15 = .ok (.aload_n 1, 1) := by decide +kernel
theorem dX6_copyInto_16 : decode cX6_copyInto 16 = .ok (.aload_n 0, 1) := by decide +kernel
theorem dX6_copyInto_17 : decode cX6_copyInto 17 = .ok (.iload_n 2, 1) := by decide +kernel
theorem dX6_copyInto_18 : decode cX6_copyInto 18 = .ok (.invokevirtual 33, 3) := by decide +kernel
theorem dX6_copyInto_21 : decode cX6_copyInto 21 = .ok (.invokevirtual 34, 3) := by decide +kernel
theorem dX6_copyInto_24 : decode cX6_copyInto 24 = .ok (.iinc 2 1, 3) := by decide +kernel
theorem dX6_copyInto_27 : decode cX6_copyInto 27 = .ok (.goto (-20), 3) := by decide +kernel
theorem dX6_copyInto_30 : decode cX6_copyInto 30 = .ok (.return_, 1) := by decide +kernel
theorem dX6_valueAt_0 : decode cX6_valueAt 0 = .ok (.iload_n 1, 1) := by decide +kernel
theorem dX6_valueAt_1 : decode cX6_valueAt 1 = .ok (.ifCond .lt 29, 3) := by decide +kernel
theorem dX6_valueAt_4 : decode cX6_valueAt 4 = .ok (.iload_n 1, 1) := by decide +kernel
theorem dX6_valueAt_5 : decode cX6_valueAt 5 = .ok (.aload_n 0, 1) := by decide +kernel
theorem dX6_valueAt_6 : decode cX6_valueAt 6 = .ok (.getfield 19, 3) := by decide +kernel
theorem dX6_valueAt_9 : decode cX6_valueAt 9 = .ok (.if_icmp .ge 21, 3) := by decide +kernel
theorem dX6_valueAt_12 : decode cX6_valueAt 12 = .ok (.aload_n 0, 1) := by decide +kernel
theorem dX6_valueAt_13 : decode cX6_valueAt 13 = .ok (.getfield 11, 3) := by decide +kernel
theorem dX6_valueAt_16 : decode cX6_valueAt 16 = .ok (.aload_n 0, 1) := by decide +kernel
theorem dX6_valueAt_17 : decode cX6_valueAt 17 = .ok (.getfield 15, 3) := by decide +kernel
theorem dX6_valueAt_20 : decode cX6_valueAt 20 = .ok (.iload_n 1, 1) := by decide +kernel
theorem dX6_valueAt_21 : decode cX6_valueAt 21 = .ok (.iadd, 1) := by decide +kernel
theorem dX6_valueAt_22 : decode cX6_valueAt 22 = .ok (.sipush 255, 3) := by decide +kernel
theorem dX6_valueAt_25 : decode cX6_valueAt 25 = .ok (.iand, 1) := by decide +kernel
theorem dX6_valueAt_26 : decode cX6_valueAt 26 = .ok (.iaload, 1) := by decide +kernel
theorem dX6_valueAt_27 : decode cX6_valueAt 27 = .ok (.goto 6, 3) := by decide +kernel
theorem dX6_valueAt_30 : decode cX6_valueAt 30 = .ok (.sipush (-1000), 3) := by decide +kernel
theorem dX6_valueAt_33 : decode cX6_valueAt 33 = .ok (.ireturn, 1) := by decide +kernel
theorem dX6_putAt_0 : decode cX6_putAt 0 = .ok (.iload_n 1, 1) := by decide +kernel
theorem dX6_putAt_1 : decode cX6_putAt 1 = .ok (.ifCond .lt 27, 3) := by decide +kernel
theorem dX6_putAt_4 : decode cX6_putAt 4 = .ok (.iload_n 1, 1) := by decide +kernel
theorem dX6_putAt_5 : decode cX6_putAt 5 = .ok (.aload_n 0, 1) := by decide +kernel
theorem dX6_putAt_6 : decode cX6_putAt 6 = .ok (.getfield 19, 3) := by decide +kernel
theorem dX6_putAt_9 : decode cX6_putAt 9 = .ok (.if_icmp .ge 19, 3) := by decide +kernel
theorem dX6_putAt_12 : decode cX6_putAt 12 = .ok (.aload_n 0, 1) := by decide +kernel
theorem dX6_putAt_13 : decode cX6_putAt 13 = .ok (.getfield 11, 3) := by decide +kernel
theorem dX6_putAt_16 : decode cX6_putAt 16 = .ok (.aload_n 0, 1) := by decide +kernel
theorem dX6_putAt_17 : decode cX6_putAt 17 = .ok (.getfield 15, 3) := by decide +kernel
theorem dX6_putAt_20 : decode cX6_putAt 20 = .ok (.iload_n 1, 1) := by decide +kernel
theorem dX6_putAt_21 : decode cX6_putAt 21 = .ok (.iadd, 1) := by decide +kernel
theorem dX6_putAt_22 : decode cX6_putAt 22 = .ok (.sipush 255, 3) := by decide +kernel
theorem dX6_putAt_25 : decode cX6_putAt 25 = .ok (.iand, 1) := by decide +kernel
theorem dX6_putAt_26 : decode cX6_putAt 26 = .ok (.iload_n 2, 1) := by decide +kernel
theorem dX6_putAt_27 : decode cX6_putAt 27 = .ok (.iastore, 1) := by decide +kernel
theorem dX6_putAt_28 : decode cX6_putAt 28 = .ok (.return_, 1) := by decide +kernel
theorem dX6_append_0 : decode cX6_append 0 = .ok (.aload_n 0, 1) := by decide +kernel
theorem dX6_append_1 : decode cX6_append 1 = .ok (.getfield 19, 3) := by decide +kernel
theorem dX6_append_4 : decode cX6_append 4 = .ok (.sipush 160, 3) := by decide +kernel
theorem dX6_append_7 : decode cX6_append 7 = .ok (.if_icmp .lt 5, 3) := by decide +kernel
theorem dX6_append_10 : decode cX6_append 10 = .ok (.iconst 0, 1) := by decide +kernel
theorem dX6_append_11 : decode cX6_append 11 = .ok (.ireturn, 1) := by decide +kernel
theorem dX6_append_12 : decode cX6_append 12 = .ok (.aload_n 0, 1) := by decide +kernel
theorem dX6_append_13 : decode cX6_append 13 = .ok (.getfield 11, 3) := by decide +kernel
theorem dX6_append_16 : decode cX6_append 16 = .ok (.aload_n 0, 1) := by decide +kernel
theorem dX6_append_17 : decode cX6_append 17 = .ok (.getfield 15, 3) := by decide +kernel
theorem dX6_append_20 : decode cX6_append 20 = .ok (.aload_n 0, 1) := by decide +kernel
theorem dX6_append_21 : decode cX6_append 21 = .ok (.getfield 19, 3) := by decide +kernel
theorem dX6_append_24 : decode cX6_append 24 = .ok (.iadd, 1) := by decide +kernel
theorem dX6_append_25 : decode cX6_append 25 = .ok (.sipush 255, 3) := by decide +kernel
theorem dX6_append_28 : decode cX6_append 28 = .ok (.iand, 1) := by decide +kernel
theorem dX6_append_29 : decode cX6_append 29 = .ok (.iload_n 1, 1) := by decide +kernel
theorem dX6_append_30 : decode cX6_append 30 = .ok (.iastore, 1) := by decide +kernel
theorem dX6_append_31 : decode cX6_append 31 = .ok (.aload_n 0, 1) := by decide +kernel
theorem dX6_append_32 : decode cX6_append 32 = .ok (.dup, 1) := by decide +kernel
theorem dX6_append_33 : decode cX6_append 33 = .ok (.getfield 19, 3) := by decide +kernel
theorem dX6_append_36 : decode cX6_append 36 = .ok (.iconst 1, 1) := by decide +kernel
theorem dX6_append_37 : decode cX6_append 37 = .ok (.iadd, 1) := by decide +kernel
theorem dX6_append_38 : decode cX6_append 38 = .ok (.putfield 19, 3) := by decide +kernel
theorem dX6_append_41 : decode cX6_append 41 = .ok (.iconst 1, 1) := by decide +kernel
theorem dX6_append_42 : decode cX6_append 42 = .ok (.ireturn, 1) := by decide +kernel
theorem dX6_cutLast_0 : decode cX6_cutLast 0 = .ok (.aload_n 0, 1) := by decide +kernel
theorem dX6_cutLast_1 : decode cX6_cutLast 1 = .ok (.getfield 19, 3) := by decide +kernel
theorem dX6_cutLast_4 : decode cX6_cutLast 4 = .ok (.ifCond .le 13, 3) := by decide +kernel
theorem dX6_cutLast_7 : decode cX6_cutLast 7 = .ok (.aload_n 0, 1) := by decide +kernel
theorem dX6_cutLast_8 : decode cX6_cutLast 8 = .ok (.dup, 1) := by decide +kernel
theorem dX6_cutLast_9 : decode cX6_cutLast 9 = .ok (.getfield 19, 3) := by decide +kernel
theorem dX6_cutLast_12 : decode cX6_cutLast 12 = .ok (.iconst 1, 1) := by decide +kernel
theorem dX6_cutLast_13 : decode cX6_cutLast 13 = .ok (.isub, 1) := by decide +kernel
theorem dX6_cutLast_14 : decode cX6_cutLast 14 = .ok (.putfield 19, 3) := by decide +kernel
theorem dX6_cutLast_17 : decode cX6_cutLast 17 = .ok (.return_, 1) := by decide +kernel
theorem dX6_cutFirst_0 : decode cX6_cutFirst 0 = .ok (.iload_n 1, 1) := by decide +kernel
theorem dX6_cutFirst_1 : decode cX6_cutFirst 1 = .ok (.iconst 1, 1) := by decide +kernel
theorem dX6_cutFirst_2 : decode cX6_cutFirst 2 = .ok (.if_icmp .lt 11, 3) := by decide +kernel
theorem dX6_cutFirst_5 : decode cX6_cutFirst 5 = .ok (.iload_n 1, 1) := by decide +kernel
theorem dX6_cutFirst_6 : decode cX6_cutFirst 6 = .ok (.aload_n 0, 1) := by decide +kernel
theorem dX6_cutFirst_7 : decode cX6_cutFirst 7 = .ok (.getfield 19, 3) := by decide +kernel
theorem dX6_cutFirst_10 : decode cX6_cutFirst 10 = .ok (.if_icmp .le 5, 3) := by decide +kernel
theorem dX6_cutFirst_13 : decode cX6_cutFirst 13 = .ok (.iconst 0, 1) := by decide +kernel
theorem dX6_cutFirst_14 : decode cX6_cutFirst 14 = .ok (.ireturn, 1) := by decide +kernel
theorem dX6_cutFirst_15 : decode cX6_cutFirst 15 = .ok (.aload_n 0, 1) := by decide +kernel
theorem dX6_cutFirst_16 : decode cX6_cutFirst 16 = .ok (.aload_n 0, 1) := by decide +kernel
theorem dX6_cutFirst_17 : decode cX6_cutFirst 17 = .ok (.getfield 15, 3) := by decide +kernel
theorem dX6_cutFirst_20 : decode cX6_cutFirst 20 = .ok (.iload_n 1, 1) := by decide +kernel
theorem dX6_cutFirst_21 : decode cX6_cutFirst 21 = .ok (.iadd, 1) := by decide +kernel
theorem dX6_cutFirst_22 : decode cX6_cutFirst 22 = .ok (.sipush 255, 3) := by decide +kernel
theorem dX6_cutFirst_25 : decode cX6_cutFirst 25 = .ok (.iand, 1) := by decide +kernel
theorem dX6_cutFirst_26 : decode cX6_cutFirst 26 = .ok (.putfield 15, 3) := by decide +kernel
theorem dX6_cutFirst_29 : decode cX6_cutFirst 29 = .ok (.aload_n 0, 1) := by decide +kernel
theorem dX6_cutFirst_30 : decode cX6_cutFirst 30 = .ok (.dup, 1) := by decide +kernel
theorem dX6_cutFirst_31 : decode cX6_cutFirst 31 = .ok (.getfield 19, 3) := by decide +kernel
theorem dX6_cutFirst_34 : decode cX6_cutFirst 34 = .ok (.iload_n 1, 1) := by decide +kernel
theorem dX6_cutFirst_35 : decode cX6_cutFirst 35 = .ok (.isub, 1) := by decide +kernel
theorem dX6_cutFirst_36 : decode cX6_cutFirst 36 = .ok (.putfield 19, 3) := by decide +kernel
theorem dX6_cutFirst_39 : decode cX6_cutFirst 39 = .ok (.iconst 1, 1) := by decide +kernel
theorem dX6_cutFirst_40 : decode cX6_cutFirst 40 = .ok (.ireturn, 1) := by decide +kernel
theorem dX6_bringBackFirst_0 : decode cX6_bringBackFirst 0 = .ok (.iload_n 1, 1) := by decide +kernel
theorem dX6_bringBackFirst_1 : decode cX6_bringBackFirst 1 = .ok (.iconst 1, 1) := by decide +kernel
theorem dX6_bringBackFirst_2 : decode cX6_bringBackFirst 2 = .ok (.if_icmp .lt 39, 3) := by decide +kernel
theorem dX6_bringBackFirst_5 : decode cX6_bringBackFirst 5 = .ok (.iload_n 1, 1) := by decide +kernel
theorem dX6_bringBackFirst_6 : decode cX6_bringBackFirst 6 = .ok (.sipush 160, 3) := by decide +kernel
theorem dX6_bringBackFirst_9 : decode cX6_bringBackFirst 9 = .ok (.aload_n 0, 1) := by decide +kernel
theorem dX6_bringBackFirst_10 : decode cX6_bringBackFirst 10 = .ok (.getfield 19, 3) := by decide +kernel
theorem dX6_bringBackFirst_13 : decode cX6_bringBackFirst 13 = .ok (.isub, 1) := by decide +kernel
theorem dX6_bringBackFirst_14 : decode cX6_bringBackFirst 14 = .ok (.if_icmp .gt 27, 3) := by decide +kernel
theorem dX6_bringBackFirst_17 : decode cX6_bringBackFirst 17 = .ok (.aload_n 0, 1) := by decide +kernel
theorem dX6_bringBackFirst_18 : decode cX6_bringBackFirst 18 = .ok (.aload_n 0, 1) := by decide +kernel
theorem dX6_bringBackFirst_19 : decode cX6_bringBackFirst 19 = .ok (.getfield 15, 3) := by decide +kernel
theorem dX6_bringBackFirst_22 : decode cX6_bringBackFirst 22 = .ok (.iload_n 1, 1) := by decide +kernel
theorem dX6_bringBackFirst_23 : decode cX6_bringBackFirst 23 = .ok (.isub, 1) := by decide +kernel
theorem dX6_bringBackFirst_24 : decode cX6_bringBackFirst 24 = .ok (.sipush 255, 3) := by decide +kernel
theorem dX6_bringBackFirst_27 : decode cX6_bringBackFirst 27 = .ok (.iand, 1) := by decide +kernel
theorem dX6_bringBackFirst_28 : decode cX6_bringBackFirst 28 = .ok (.putfield 15, 3) := by decide +kernel
theorem dX6_bringBackFirst_31 : decode cX6_bringBackFirst 31 = .ok (.aload_n 0, 1) := by decide +kernel
theorem dX6_bringBackFirst_32 : decode cX6_bringBackFirst 32 = .ok (.dup, 1) := by decide +kernel
theorem dX6_bringBackFirst_33 : decode cX6_bringBackFirst 33 = .ok (.getfield 19, 3) := by decide +kernel
theorem dX6_bringBackFirst_36 : decode cX6_bringBackFirst 36 = .ok (.iload_n 1, 1) := by decide +kernel
theorem dX6_bringBackFirst_37 : decode cX6_bringBackFirst 37 = .ok (.iadd, 1) := by decide +kernel
theorem dX6_bringBackFirst_38 : decode cX6_bringBackFirst 38 = .ok (.putfield 19, 3) := by decide +kernel
theorem dX6_bringBackFirst_41 : decode cX6_bringBackFirst 41 = .ok (.return_, 1) := by decide +kernel
set_option maxRecDepth 20000 in
theorem ggX6_hasReading_X6_valueAt : GoodIn wsX6_hasReading wsX6_valueAt := goodIn_r _ [5, 6, 7, 8, 9, 10, 11] (by decide +kernel) (by decide +kernel)
set_option maxRecDepth 20000 in
theorem gX6_hasReading_X6_valueAt : GoodIn wsX6_hasReading (wsV RX6 33 RX6 yX6_valueAt wsX6_valueAt) := goodIn_app (goodIn_of _ (by decide +kernel)) ggX6_hasReading_X6_valueAt
theorem dX6_hasReading_0 : decode cX6_hasReading 0 = .ok (.aload_n 0, 1) := by decide +kernel
theorem dX6_hasReading_1 : decode cX6_hasReading 1 = .ok (.iload_n 1, 1) := by decide +kernel
theorem dX6_hasReading_2 : decode cX6_hasReading 2 = .ok (.invokevirtual 33, 3) := by decide +kernel
theorem dX6_hasReading_5 : decode cX6_hasReading 5 = .ok (.sipush (-1000), 3) := by decide +kernel
theorem dX6_hasReading_8 : decode cX6_hasReading 8 = .ok (.if_icmp .eq 7, 3) := by decide +kernel
theorem dX6_hasReading_11 : decode cX6_hasReading 11 = .ok (.iconst 1, 1) := by decide +kernel
theorem dX6_hasReading_12 : decode cX6_hasReading 12 = .ok (.goto 4, 3) := by decide +kernel
theorem dX6_hasReading_15 : decode cX6_hasReading 15 = .ok (.iconst 0, 1) := by decide +kernel
theorem dX6_hasReading_16 : decode cX6_hasReading 16 = .ok (.ireturn, 1) := by decide +kernel
set_option maxRecDepth 20000 in
theorem ggX6_hasWindow_X6_hasReading : GoodIn wsX6_hasWindow wsX6_hasReading := goodIn_r _ [6, 7, 8, 9, 5, 10, 1, 11, 12, 13, 14, 15] (by decide +kernel) (by decide +kernel)
set_option maxRecDepth 20000 in
theorem gX6_hasWindow_X6_hasReading : GoodIn wsX6_hasWindow (wsV RX6 37 RX6 yX6_hasReading wsX6_hasReading) := goodIn_app (goodIn_of _ (by decide +kernel)) ggX6_hasWindow_X6_hasReading
theorem dX6_hasWindow_0 : decode cX6_hasWindow 0 = .ok (.iload_n 1, 1) := by decide +kernel
theorem dX6_hasWindow_1 : decode cX6_hasWindow 1 = .ok (.ifCond .lt 26, 3) := by decide +kernel
theorem dX6_hasWindow_4 : decode cX6_hasWindow 4 = .ok (.iload_n 1, 1) := by decide +kernel
theorem dX6_hasWindow_5 : decode cX6_hasWindow 5 = .ok (.aload_n 0, 1) := by decide +kernel
theorem dX6_hasWindow_6 : decode cX6_hasWindow 6 = .ok (.getfield 19, 3) := by decide +kernel
theorem dX6_hasWindow_9 : decode cX6_hasWindow 9 = .ok (.if_icmp .ge 18, 3) := by decide +kernel
theorem dX6_hasWindow_12 : decode cX6_hasWindow 12 = .ok (.iload_n 2, 1) := by decide +kernel
theorem dX6_hasWindow_13 : decode cX6_hasWindow 13 = .ok (.iconst 1, 1) := by decide +kernel
theorem dX6_hasWindow_14 : decode cX6_hasWindow 14 = .ok (.if_icmp .lt 13, 3) := by decide +kernel
theorem dX6_hasWindow_17 : decode cX6_hasWindow 17 = .ok (.iload_n 2, 1) := by decide +kernel
theorem dX6_hasWindow_18 : decode cX6_hasWindow 18 = .ok (.aload_n 0, 1) := by decide +kernel
theorem dX6_hasWindow_19 : decode cX6_hasWindow 19 = .ok (.getfield 19, 3) := by decide +kernel
theorem dX6_hasWindow_22 : decode cX6_hasWindow 22 = .ok (.iload_n 1, 1) := by decide +kernel
theorem dX6_hasWindow_23 : decode cX6_hasWindow 23 = .ok (.isub, 1) := by decide +kernel
theorem dX6_hasWindow_24 : decode cX6_hasWindow 24 = .ok (.if_icmp .le 5, 3) := by decide +kernel
theorem dX6_hasWindow_27 : decode cX6_hasWindow 27 = .ok (.iconst 0, 1) := by decide +kernel
theorem dX6_hasWindow_28 : decode cX6_hasWindow 28 = .ok (.ireturn, 1) := by decide +kernel
theorem dX6_hasWindow_29 : decode cX6_hasWindow 29 = .ok (.iconst 0, 1) := by decide +kernel
theorem dX6_hasWindow_30 : decode cX6_hasWindow 30 = .ok (.istore_n 3, 1) := by decide +kernel
theorem dX6_hasWindow_31 : decode cX6_hasWindow 31 = .ok (.iload_n 3, 1) := by decide +kernel
theorem dX6_hasWindow_32 : decode cX6_hasWindow 32 = .ok (.iload_n 2, 1) := by decide +kernel
theorem dX6_hasWindow_33 : decode cX6_hasWindow 33 = .ok (.if_icmp .ge 21, 3) := by decide +kernel
theorem dX6_hasWindow_36 : decode cX6_hasWindow 36 = .ok (.aload_n 0, 1) := by decide +kernel
theorem dX6_hasWindow_37 : decode cX6_hasWindow 37 = .ok (.iload_n 1, 1) := by decide +kernel
theorem dX6_hasWindow_38 : decode cX6_hasWindow 38 = .ok (.iload_n 3, 1) := by decide +kernel
theorem dX6_hasWindow_39 : decode cX6_hasWindow 39 = .ok (.iadd, 1) := by decide +kernel
theorem dX6_hasWindow_40 : decode cX6_hasWindow 40 = .ok (.invokevirtual 37, 3) := by decide +kernel
theorem dX6_hasWindow_43 : decode cX6_hasWindow 43 = .ok (.ifCond .ne 5, 3) := by decide +kernel
theorem dX6_hasWindow_46 : decode cX6_hasWindow 46 = .ok (.iconst 0, 1) := by decide +kernel
theorem dX6_hasWindow_47 : decode cX6_hasWindow 47 = .ok (.ireturn, 1) := by decide +kernel
theorem dX6_hasWindow_48 : decode cX6_hasWindow 48 = .ok (.iinc 3 1, 3) := by decide +kernel
theorem dX6_hasWindow_51 : decode cX6_hasWindow 51 = .ok (.goto (-20), 3) := by decide +kernel
theorem dX6_hasWindow_54 : decode cX6_hasWindow 54 = .ok (.iconst 1, 1) := by decide +kernel
theorem dX6_hasWindow_55 : decode cX6_hasWindow 55 = .ok (.ireturn, 1) := by decide +kernel
set_option maxRecDepth 20000 in
theorem ggX6_copyWindow_X6_valueAt : GoodIn wsX6_copyWindow wsX6_valueAt := goodIn_r _ [5, 6, 7, 8, 9, 10, 11] (by decide +kernel) (by decide +kernel)
set_option maxRecDepth 20000 in
theorem gX6_copyWindow_X6_valueAt : GoodIn wsX6_copyWindow (wsV RX6 33 RX6 yX6_valueAt wsX6_valueAt) := goodIn_app (goodIn_of _ (by decide +kernel)) ggX6_copyWindow_X6_valueAt
theorem dX6_copyWindow_0 : decode cX6_copyWindow 0 = .ok (.iconst 0, 1) := by decide +kernel
theorem dX6_copyWindow_1 : decode cX6_copyWindow 1 = .ok (.istore 4, 2) := by decide +kernel
theorem dX6_copyWindow_3 : decode cX6_copyWindow 3 = .ok (.iload 4, 2) := by decide +kernel
theorem dX6_copyWindow_5 : decode cX6_copyWindow 5 = .ok (.iload_n 2, 1) := by decide +kernel
theorem dX6_copyWindow_6 : decode cX6_copyWindow 6 = .ok (.if_icmp .ge 28, 3) := by decide +kernel
theorem dX6_copyWindow_9 : decode cX6_copyWindow 9 = .ok (.iload 4, 2) := by decide +kernel
theorem dX6_copyWindow_11 : decode cX6_copyWindow 11 = .ok (.aload_n 3, 1) := by decide +kernel
theorem dX6_copyWindow_12 : decode cX6_copyWindow 12 = .ok (.arraylength, 1) := by decide +kernel
theorem dX6_copyWindow_13 : decode cX6_copyWindow 13 = .ok (.if_icmp .ge 21, 3) := by decide +kernel
theorem dX6_copyWindow_16 : decode cX6_copyWindow 16 = .ok (.aload_n 3, 1) := by decide +kernel
theorem dX6_copyWindow_17 : decode cX6_copyWindow 17 = .ok (.iload 4, 2) := by decide +kernel
theorem dX6_copyWindow_19 : decode cX6_copyWindow 19 = .ok (.aload_n 0, 1) := by decide +kernel
theorem dX6_copyWindow_20 : decode cX6_copyWindow 20 = .ok (.iload_n 1, 1) := by decide +kernel
theorem dX6_copyWindow_21 : decode cX6_copyWindow 21 = .ok (.iload 4, 2) := by decide +kernel
theorem dX6_copyWindow_23 : decode cX6_copyWindow 23 = .ok (.iadd, 1) := by decide +kernel
theorem dX6_copyWindow_24 : decode cX6_copyWindow 24 = .ok (.invokevirtual 33, 3) := by decide +kernel
theorem dX6_copyWindow_27 : decode cX6_copyWindow 27 = .ok (.iastore, 1) := by decide +kernel
theorem dX6_copyWindow_28 : decode cX6_copyWindow 28 = .ok (.iinc 4 1, 3) := by decide +kernel
theorem dX6_copyWindow_31 : decode cX6_copyWindow 31 = .ok (.goto (-28), 3) := by decide +kernel
theorem dX6_copyWindow_34 : decode cX6_copyWindow 34 = .ok (.return_, 1) := by decide +kernel
set_option maxRecDepth 20000 in
theorem ggX6_sumOf_X6_hasReading : GoodIn wsX6_sumOf wsX6_hasReading := goodIn_r _ [5, 6, 7, 8, 4, 9, 10, 11, 12, 13, 14, 15] (by decide +kernel) (by decide +kernel)
set_option maxRecDepth 20000 in
theorem gX6_sumOf_X6_hasReading : GoodIn wsX6_sumOf (wsV RX6 37 RX6 yX6_hasReading wsX6_hasReading) := goodIn_app (goodIn_of _ (by decide +kernel)) ggX6_sumOf_X6_hasReading
set_option maxRecDepth 20000 in
theorem ggX6_sumOf_X6_valueAt : GoodIn wsX6_sumOf wsX6_valueAt := goodIn_r _ [9, 10, 11, 12, 13, 14, 15] (by decide +kernel) (by decide +kernel)
set_option maxRecDepth 20000 in
theorem gX6_sumOf_X6_valueAt : GoodIn wsX6_sumOf (wsV RX6 33 RX6 yX6_valueAt wsX6_valueAt) := goodIn_app (goodIn_of _ (by decide +kernel)) ggX6_sumOf_X6_valueAt
theorem dX6_sumOf_0 : decode cX6_sumOf 0 = .ok (.iconst 0, 1) := by decide +kernel
theorem dX6_sumOf_1 : decode cX6_sumOf 1 = .ok (.istore_n 3, 1) := by decide +kernel
theorem dX6_sumOf_2 : decode cX6_sumOf 2 = .ok (.iconst 0, 1) := by decide +kernel
theorem dX6_sumOf_3 : decode cX6_sumOf 3 = .ok (.istore 4, 2) := by decide +kernel
theorem dX6_sumOf_5 : decode cX6_sumOf 5 = .ok (.iload 4, 2) := by decide +kernel
theorem dX6_sumOf_7 : decode cX6_sumOf 7 = .ok (.iload_n 2, 1) := by decide +kernel
theorem dX6_sumOf_8 : decode cX6_sumOf 8 = .ok (.if_icmp .ge 31, 3) := by decide +kernel
theorem dX6_sumOf_11 : decode cX6_sumOf 11 = .ok (.aload_n 0, 1) := by decide +kernel
theorem dX6_sumOf_12 : decode cX6_sumOf 12 = .ok (.iload_n 1, 1) := by decide +kernel
theorem dX6_sumOf_13 : decode cX6_sumOf 13 = .ok (.iload 4, 2) := by decide +kernel
theorem dX6_sumOf_15 : decode cX6_sumOf 15 = .ok (.iadd, 1) := by decide +kernel
theorem dX6_sumOf_16 : decode cX6_sumOf 16 = .ok (.invokevirtual 37, 3) := by decide +kernel
theorem dX6_sumOf_19 : decode cX6_sumOf 19 = .ok (.ifCond .eq 14, 3) := by decide +kernel
theorem dX6_sumOf_22 : decode cX6_sumOf 22 = .ok (.iload_n 3, 1) := by decide +kernel
theorem dX6_sumOf_23 : decode cX6_sumOf 23 = .ok (.aload_n 0, 1) := by decide +kernel
theorem dX6_sumOf_24 : decode cX6_sumOf 24 = .ok (.iload_n 1, 1) := by decide +kernel
theorem dX6_sumOf_25 : decode cX6_sumOf 25 = .ok (.iload 4, 2) := by decide +kernel
theorem dX6_sumOf_27 : decode cX6_sumOf 27 = .ok (.iadd, 1) := by decide +kernel
theorem dX6_sumOf_28 : decode cX6_sumOf 28 = .ok (.invokevirtual 33, 3) := by decide +kernel
theorem dX6_sumOf_31 : decode cX6_sumOf 31 = .ok (.iadd, 1) := by decide +kernel
theorem dX6_sumOf_32 : decode cX6_sumOf 32 = .ok (.istore_n 3, 1) := by decide +kernel
theorem dX6_sumOf_33 : decode cX6_sumOf 33 = .ok (.iinc 4 1, 3) := by decide +kernel
theorem dX6_sumOf_36 : decode cX6_sumOf 36 = .ok (.goto (-31), 3) := by decide +kernel
theorem dX6_sumOf_39 : decode cX6_sumOf 39 = .ok (.iload_n 3, 1) := by decide +kernel
theorem dX6_sumOf_40 : decode cX6_sumOf 40 = .ok (.ireturn, 1) := by decide +kernel
set_option maxRecDepth 20000 in
theorem ggX6_leastOf_X6_valueAt : GoodIn wsX6_leastOf wsX6_valueAt := goodIn_r _ [5, 6, 7, 8, 9, 10, 11] (by decide +kernel) (by decide +kernel)
set_option maxRecDepth 20000 in
theorem gX6_leastOf_X6_valueAt : GoodIn wsX6_leastOf (wsV RX6 33 RX6 yX6_valueAt wsX6_valueAt) := goodIn_app (goodIn_of _ (by decide +kernel)) ggX6_leastOf_X6_valueAt
theorem dX6_leastOf_0 : decode cX6_leastOf 0 = .ok (.sipush (-1000), 3) := by decide +kernel
theorem dX6_leastOf_3 : decode cX6_leastOf 3 = .ok (.istore_n 3, 1) := by decide +kernel
theorem dX6_leastOf_4 : decode cX6_leastOf 4 = .ok (.iconst 0, 1) := by decide +kernel
theorem dX6_leastOf_5 : decode cX6_leastOf 5 = .ok (.istore 4, 2) := by decide +kernel
theorem dX6_leastOf_7 : decode cX6_leastOf 7 = .ok (.iload 4, 2) := by decide +kernel
theorem dX6_leastOf_9 : decode cX6_leastOf 9 = .ok (.iload_n 2, 1) := by decide +kernel
theorem dX6_leastOf_10 : decode cX6_leastOf 10 = .ok (.if_icmp .ge 43, 3) := by decide +kernel
theorem dX6_leastOf_13 : decode cX6_leastOf 13 = .ok (.aload_n 0, 1) := by decide +kernel
theorem dX6_leastOf_14 : decode cX6_leastOf 14 = .ok (.iload_n 1, 1) := by decide +kernel
theorem dX6_leastOf_15 : decode cX6_leastOf 15 = .ok (.iload 4, 2) := by decide +kernel
theorem dX6_leastOf_17 : decode cX6_leastOf 17 = .ok (.iadd, 1) := by decide +kernel
theorem dX6_leastOf_18 : decode cX6_leastOf 18 = .ok (.invokevirtual 33, 3) := by decide +kernel
theorem dX6_leastOf_21 : decode cX6_leastOf 21 = .ok (.istore 5, 2) := by decide +kernel
theorem dX6_leastOf_23 : decode cX6_leastOf 23 = .ok (.iload 5, 2) := by decide +kernel
theorem dX6_leastOf_25 : decode cX6_leastOf 25 = .ok (.sipush (-1000), 3) := by decide +kernel
theorem dX6_leastOf_28 : decode cX6_leastOf 28 = .ok (.if_icmp .eq 19, 3) := by decide +kernel
theorem dX6_leastOf_31 : decode cX6_leastOf 31 = .ok (.iload_n 3, 1) := by decide +kernel
theorem dX6_leastOf_32 : decode cX6_leastOf 32 = .ok (.sipush (-1000), 3) := by decide +kernel
theorem dX6_leastOf_35 : decode cX6_leastOf 35 = .ok (.if_icmp .eq 9, 3) := by decide +kernel
theorem dX6_leastOf_38 : decode cX6_leastOf 38 = .ok (.iload 5, 2) := by decide +kernel
theorem dX6_leastOf_40 : decode cX6_leastOf 40 = .ok (.iload_n 3, 1) := by decide +kernel
theorem dX6_leastOf_41 : decode cX6_leastOf 41 = .ok (.if_icmp .ge 6, 3) := by decide +kernel
theorem dX6_leastOf_44 : decode cX6_leastOf 44 = .ok (.iload 5, 2) := by decide +kernel
theorem dX6_leastOf_46 : decode cX6_leastOf 46 = .ok (.istore_n 3, 1) := by decide +kernel
theorem dX6_leastOf_47 : decode cX6_leastOf 47 = .ok (.iinc 4 1, 3) := by decide +kernel
theorem dX6_leastOf_50 : decode cX6_leastOf 50 = .ok (.goto (-43), 3) := by decide +kernel
theorem dX6_leastOf_53 : decode cX6_leastOf 53 = .ok (.iload_n 3, 1) := by decide +kernel
theorem dX6_leastOf_54 : decode cX6_leastOf 54 = .ok (.ireturn, 1) := by decide +kernel
set_option maxRecDepth 20000 in
theorem ggX6_greatestOf_X6_valueAt : GoodIn wsX6_greatestOf wsX6_valueAt := goodIn_r _ [9, 10, 11, 12, 13, 14, 15] (by decide +kernel) (by decide +kernel)
set_option maxRecDepth 20000 in
theorem gX6_greatestOf_X6_valueAt : GoodIn wsX6_greatestOf (wsV RX6 33 RX6 yX6_valueAt wsX6_valueAt) := goodIn_app (goodIn_of _ (by decide +kernel)) ggX6_greatestOf_X6_valueAt
theorem dX6_greatestOf_0 : decode cX6_greatestOf 0 = .ok (.sipush (-1000), 3) := by decide +kernel
theorem dX6_greatestOf_3 : decode cX6_greatestOf 3 = .ok (.istore_n 3, 1) := by decide +kernel
theorem dX6_greatestOf_4 : decode cX6_greatestOf 4 = .ok (.iconst 0, 1) := by decide +kernel
theorem dX6_greatestOf_5 : decode cX6_greatestOf 5 = .ok (.istore 4, 2) := by decide +kernel
theorem dX6_greatestOf_7 : decode cX6_greatestOf 7 = .ok (.iload 4, 2) := by decide +kernel
theorem dX6_greatestOf_9 : decode cX6_greatestOf 9 = .ok (.iload_n 2, 1) := by decide +kernel
theorem dX6_greatestOf_10 : decode cX6_greatestOf 10 = .ok (.if_icmp .ge 22, 3) := by decide +kernel
theorem dX6_greatestOf_13 : decode cX6_greatestOf 13 = .ok (.iload_n 3, 1) := by decide +kernel
theorem dX6_greatestOf_14 : decode cX6_greatestOf 14 = .ok (.aload_n 0, 1) := by decide +kernel
theorem dX6_greatestOf_15 : decode cX6_greatestOf 15 = .ok (.iload_n 1, 1) := by decide +kernel
theorem dX6_greatestOf_16 : decode cX6_greatestOf 16 = .ok (.iload 4, 2) := by decide +kernel
theorem dX6_greatestOf_18 : decode cX6_greatestOf 18 = .ok (.iadd, 1) := by decide +kernel
theorem dX6_greatestOf_19 : decode cX6_greatestOf 19 = .ok (.invokevirtual 33, 3) := by decide +kernel
theorem dX6_greatestOf_22 : decode cX6_greatestOf 22 = .ok (.invokestatic 40, 3) := by decide +kernel
theorem dX6_greatestOf_25 : decode cX6_greatestOf 25 = .ok (.istore_n 3, 1) := by decide +kernel
theorem dX6_greatestOf_26 : decode cX6_greatestOf 26 = .ok (.iinc 4 1, 3) := by decide +kernel
theorem dX6_greatestOf_29 : decode cX6_greatestOf 29 = .ok (.goto (-22), 3) := by decide +kernel
theorem dX6_greatestOf_32 : decode cX6_greatestOf 32 = .ok (.iload_n 3, 1) := by decide +kernel
theorem dX6_greatestOf_33 : decode cX6_greatestOf 33 = .ok (.ireturn, 1) := by decide +kernel
set_option maxRecDepth 20000 in
theorem ggX6_gapCount_X6_hasReading : GoodIn wsX6_gapCount wsX6_hasReading := goodIn_r _ [6, 7, 8, 9, 5, 10, 1, 11, 12, 13, 14, 15] (by decide +kernel) (by decide +kernel)
set_option maxRecDepth 20000 in
theorem gX6_gapCount_X6_hasReading : GoodIn wsX6_gapCount (wsV RX6 37 RX6 yX6_hasReading wsX6_hasReading) := goodIn_app (goodIn_of _ (by decide +kernel)) ggX6_gapCount_X6_hasReading
theorem dX6_gapCount_0 : decode cX6_gapCount 0 = .ok (.iconst 0, 1) := by decide +kernel
theorem dX6_gapCount_1 : decode cX6_gapCount 1 = .ok (.istore_n 1, 1) := by decide +kernel
theorem dX6_gapCount_2 : decode cX6_gapCount 2 = .ok (.iconst 0, 1) := by decide +kernel
theorem dX6_gapCount_3 : decode cX6_gapCount 3 = .ok (.istore_n 2, 1) := by decide +kernel
theorem dX6_gapCount_4 : decode cX6_gapCount 4 = .ok (.iload_n 2, 1) := by decide +kernel
theorem dX6_gapCount_5 : decode cX6_gapCount 5 = .ok (.aload_n 0, 1) := by decide +kernel
theorem dX6_gapCount_6 : decode cX6_gapCount 6 = .ok (.getfield 19, 3) := by decide +kernel
theorem dX6_gapCount_9 : decode cX6_gapCount 9 = .ok (.if_icmp .ge 20, 3) := by decide +kernel
theorem dX6_gapCount_12 : decode cX6_gapCount 12 = .ok (.aload_n 0, 1) := by decide +kernel
theorem dX6_gapCount_13 : decode cX6_gapCount 13 = .ok (.iload_n 2, 1) := by decide +kernel
theorem dX6_gapCount_14 : decode cX6_gapCount 14 = .ok (.invokevirtual 37, 3) := by decide +kernel
theorem dX6_gapCount_17 : decode cX6_gapCount 17 = .ok (.ifCond .ne 6, 3) := by decide +kernel
theorem dX6_gapCount_20 : decode cX6_gapCount 20 = .ok (.iinc 1 1, 3) := by decide +kernel
theorem dX6_gapCount_23 : decode cX6_gapCount 23 = .ok (.iinc 2 1, 3) := by decide +kernel
theorem dX6_gapCount_26 : decode cX6_gapCount 26 = .ok (.goto (-22), 3) := by decide +kernel
theorem dX6_gapCount_29 : decode cX6_gapCount 29 = .ok (.iload_n 1, 1) := by decide +kernel
theorem dX6_gapCount_30 : decode cX6_gapCount 30 = .ok (.ireturn, 1) := by decide +kernel
set_option maxRecDepth 20000 in
theorem ggX6_runFrom_X6_hasReading : GoodIn wsX6_runFrom wsX6_hasReading := goodIn_r _ [6, 7, 8, 9, 5, 10, 1, 11, 12, 13, 14, 15] (by decide +kernel) (by decide +kernel)
set_option maxRecDepth 20000 in
theorem gX6_runFrom_X6_hasReading : GoodIn wsX6_runFrom (wsV RX6 37 RX6 yX6_hasReading wsX6_hasReading) := goodIn_app (goodIn_of _ (by decide +kernel)) ggX6_runFrom_X6_hasReading
theorem dX6_runFrom_0 : decode cX6_runFrom 0 = .ok (.iconst 0, 1) := by decide +kernel
theorem dX6_runFrom_1 : decode cX6_runFrom 1 = .ok (.istore_n 2, 1) := by decide +kernel
theorem dX6_runFrom_2 : decode cX6_runFrom 2 = .ok (.iload_n 1, 1) := by decide +kernel
theorem dX6_runFrom_3 : decode cX6_runFrom 3 = .ok (.istore_n 3, 1) := by decide +kernel
theorem dX6_runFrom_4 : decode cX6_runFrom 4 = .ok (.iload_n 3, 1) := by decide +kernel
theorem dX6_runFrom_5 : decode cX6_runFrom 5 = .ok (.aload_n 0, 1) := by decide +kernel
theorem dX6_runFrom_6 : decode cX6_runFrom 6 = .ok (.getfield 19, 3) := by decide +kernel
theorem dX6_runFrom_9 : decode cX6_runFrom 9 = .ok (.if_icmp .ge 20, 3) := by decide +kernel
theorem dX6_runFrom_12 : decode cX6_runFrom 12 = .ok (.aload_n 0, 1) := by decide +kernel
theorem dX6_runFrom_13 : decode cX6_runFrom 13 = .ok (.iload_n 3, 1) := by decide +kernel
theorem dX6_runFrom_14 : decode cX6_runFrom 14 = .ok (.invokevirtual 37, 3) := by decide +kernel
theorem dX6_runFrom_17 : decode cX6_runFrom 17 = .ok (.ifCond .eq 12, 3) := by decide +kernel
theorem dX6_runFrom_20 : decode cX6_runFrom 20 = .ok (.iinc 2 1, 3) := by decide +kernel
theorem dX6_runFrom_23 : decode cX6_runFrom 23 = .ok (.iinc 3 1, 3) := by decide +kernel
theorem dX6_runFrom_26 : decode cX6_runFrom 26 = .ok (.goto (-22), 3) := by decide +kernel
theorem dX6_runFrom_29 : decode cX6_runFrom 29 = .ok (.iload_n 2, 1) := by decide +kernel
theorem dX6_runFrom_30 : decode cX6_runFrom 30 = .ok (.ireturn, 1) := by decide +kernel
set_option maxRecDepth 20000 in
theorem ggX6_readingsAtEnd_X6_hasReading : GoodIn wsX6_readingsAtEnd wsX6_hasReading := goodIn_r _ [6, 7, 8, 9, 5, 10, 1, 11, 12, 13, 14, 15] (by decide +kernel) (by decide +kernel)
set_option maxRecDepth 20000 in
theorem gX6_readingsAtEnd_X6_hasReading : GoodIn wsX6_readingsAtEnd (wsV RX6 37 RX6 yX6_hasReading wsX6_hasReading) := goodIn_app (goodIn_of _ (by decide +kernel)) ggX6_readingsAtEnd_X6_hasReading
theorem dX6_readingsAtEnd_0 : decode cX6_readingsAtEnd 0 = .ok (.iconst 0, 1) := by decide +kernel
theorem dX6_readingsAtEnd_1 : decode cX6_readingsAtEnd 1 = .ok (.istore_n 1, 1) := by decide +kernel
theorem dX6_readingsAtEnd_2 : decode cX6_readingsAtEnd 2 = .ok (.aload_n 0, 1) := by decide +kernel
theorem dX6_readingsAtEnd_3 : decode cX6_readingsAtEnd 3 = .ok (.getfield 19, 3) := by decide +kernel
theorem dX6_readingsAtEnd_6 : decode cX6_readingsAtEnd 6 = .ok (.iconst 1, 1) := by decide +kernel
theorem dX6_readingsAtEnd_7 : decode cX6_readingsAtEnd 7 = .ok (.isub, 1) := by decide +kernel
theorem dX6_readingsAtEnd_8 : decode cX6_readingsAtEnd 8 = .ok (.istore_n 2, 1) := by decide +kernel
theorem dX6_readingsAtEnd_9 : decode cX6_readingsAtEnd 9 = .ok (.iload_n 2, 1) := by decide +kernel
theorem dX6_readingsAtEnd_10 : decode cX6_readingsAtEnd 10 = .ok (.ifCond .lt 20, 3) := by decide +kernel
theorem dX6_readingsAtEnd_13 : decode cX6_readingsAtEnd 13 = .ok (.aload_n 0, 1) := by decide +kernel
theorem dX6_readingsAtEnd_14 : decode cX6_readingsAtEnd 14 = .ok (.iload_n 2, 1) := by decide +kernel
theorem dX6_readingsAtEnd_15 : decode cX6_readingsAtEnd 15 = .ok (.invokevirtual 37, 3) := by decide +kernel
theorem dX6_readingsAtEnd_18 : decode cX6_readingsAtEnd 18 = .ok (.ifCond .eq 12, 3) := by decide +kernel
theorem dX6_readingsAtEnd_21 : decode cX6_readingsAtEnd 21 = .ok (.iinc 1 1, 3) := by decide +kernel
theorem dX6_readingsAtEnd_24 : decode cX6_readingsAtEnd 24 = .ok (.iinc 2 (-1), 3) := by decide +kernel
theorem dX6_readingsAtEnd_27 : decode cX6_readingsAtEnd 27 = .ok (.goto (-18), 3) := by decide +kernel
theorem dX6_readingsAtEnd_30 : decode cX6_readingsAtEnd 30 = .ok (.iload_n 1, 1) := by decide +kernel
theorem dX6_readingsAtEnd_31 : decode cX6_readingsAtEnd 31 = .ok (.ireturn, 1) := by decide +kernel
set_option maxRecDepth 20000 in
theorem ggX6_longestRunFirst_X6_runFrom : GoodIn wsX6_longestRunFirst wsX6_runFrom := goodIn_r _ [6, 1, 7, 8, 9, 5, 10, 11, 12, 13, 14, 15, 16, 17, 18, 19] (by decide +kernel) (by decide +kernel)
set_option maxRecDepth 20000 in
theorem gX6_longestRunFirst_X6_runFrom : GoodIn wsX6_longestRunFirst (wsV RX6 46 RX6 yX6_runFrom wsX6_runFrom) := goodIn_app (goodIn_of _ (by decide +kernel)) ggX6_longestRunFirst_X6_runFrom
theorem dX6_longestRunFirst_0 : decode cX6_longestRunFirst 0 = .ok (.bipush (-2), 2) := by decide +kernel
theorem dX6_longestRunFirst_2 : decode cX6_longestRunFirst 2 = .ok (.istore_n 1, 1) := by decide +kernel
theorem dX6_longestRunFirst_3 : decode cX6_longestRunFirst 3 = .ok (.iconst 0, 1) := by decide +kernel
theorem dX6_longestRunFirst_4 : decode cX6_longestRunFirst 4 = .ok (.istore_n 2, 1) := by decide +kernel
theorem dX6_longestRunFirst_5 : decode cX6_longestRunFirst 5 = .ok (.iconst 0, 1) := by decide +kernel
theorem dX6_longestRunFirst_6 : decode cX6_longestRunFirst 6 = .ok (.istore_n 3, 1) := by decide +kernel
theorem dX6_longestRunFirst_7 : decode cX6_longestRunFirst 7 = .ok (.iload_n 3, 1) := by decide +kernel
theorem dX6_longestRunFirst_8 : decode cX6_longestRunFirst 8 = .ok (.aload_n 0, 1) := by decide +kernel
theorem dX6_longestRunFirst_9 : decode cX6_longestRunFirst 9 = .ok (.getfield 19, 3) := by decide +kernel
theorem dX6_longestRunFirst_12 : decode cX6_longestRunFirst 12 = .ok (.if_icmp .ge 27, 3) := by decide +kernel
theorem dX6_longestRunFirst_15 : decode cX6_longestRunFirst 15 = .ok (.aload_n 0, 1) := by decide +kernel
theorem dX6_longestRunFirst_16 : decode cX6_longestRunFirst 16 = .ok (.iload_n 3, 1) := by decide +kernel
theorem dX6_longestRunFirst_17 : decode cX6_longestRunFirst 17 = .ok (.invokevirtual 46, 3) := by decide +kernel
theorem dX6_longestRunFirst_20 : decode cX6_longestRunFirst 20 = .ok (.istore 4, 2) := by decide +kernel
theorem dX6_longestRunFirst_22 : decode cX6_longestRunFirst 22 = .ok (.iload 4, 2) := by decide +kernel
theorem dX6_longestRunFirst_24 : decode cX6_longestRunFirst 24 = .ok (.iload_n 2, 1) := by decide +kernel
theorem dX6_longestRunFirst_25 : decode cX6_longestRunFirst 25 = .ok (.if_icmp .le 8, 3) := by decide +kernel
theorem dX6_longestRunFirst_28 : decode cX6_longestRunFirst 28 = .ok (.iload 4, 2) := by decide +kernel
theorem dX6_longestRunFirst_30 : decode cX6_longestRunFirst 30 = .ok (.istore_n 2, 1) := by decide +kernel
theorem dX6_longestRunFirst_31 : decode cX6_longestRunFirst 31 = .ok (.iload_n 3, 1) := by decide +kernel
theorem dX6_longestRunFirst_32 : decode cX6_longestRunFirst 32 = .ok (.istore_n 1, 1) := by decide +kernel
theorem dX6_longestRunFirst_33 : decode cX6_longestRunFirst 33 = .ok (.iinc 3 1, 3) := by decide +kernel
theorem dX6_longestRunFirst_36 : decode cX6_longestRunFirst 36 = .ok (.goto (-29), 3) := by decide +kernel
theorem dX6_longestRunFirst_39 : decode cX6_longestRunFirst 39 = .ok (.iload_n 1, 1) := by decide +kernel
theorem dX6_longestRunFirst_40 : decode cX6_longestRunFirst 40 = .ok (.ireturn, 1) := by decide +kernel
set_option maxRecDepth 20000 in
theorem ggX6_flatWindows_X6_hasReading : GoodIn wsX6_flatWindows wsX6_hasReading := goodIn_r _ [6, 7, 8, 9, 5, 10, 1, 11, 12, 13, 14, 15] (by decide +kernel) (by decide +kernel)
set_option maxRecDepth 20000 in
theorem gX6_flatWindows_X6_hasReading : GoodIn wsX6_flatWindows (wsV RX6 37 RX6 yX6_hasReading wsX6_hasReading) := goodIn_app (goodIn_of _ (by decide +kernel)) ggX6_flatWindows_X6_hasReading
set_option maxRecDepth 20000 in
theorem ggX6_flatWindows_X6_valueAt : GoodIn wsX6_flatWindows wsX6_valueAt := goodIn_r _ [10, 1, 11, 12, 13, 14, 15] (by decide +kernel) (by decide +kernel)
set_option maxRecDepth 20000 in
theorem gX6_flatWindows_X6_valueAt : GoodIn wsX6_flatWindows (wsV RX6 33 RX6 yX6_valueAt wsX6_valueAt) := goodIn_app (goodIn_of _ (by decide +kernel)) ggX6_flatWindows_X6_valueAt
theorem dX6_flatWindows_0 : decode cX6_flatWindows 0 = .ok (.iconst 0, 1) := by decide +kernel
theorem dX6_flatWindows_1 : decode cX6_flatWindows 1 = .ok (.istore_n 2, 1) := by decide +kernel
theorem dX6_flatWindows_2 : decode cX6_flatWindows 2 = .ok (.iconst 0, 1) := by decide +kernel
theorem dX6_flatWindows_3 : decode cX6_flatWindows 3 = .ok (.istore_n 3, 1) := by decide +kernel
theorem dX6_flatWindows_4 : decode cX6_flatWindows 4 = .ok (.iconst 0, 1) := by decide +kernel
theorem dX6_flatWindows_5 : decode cX6_flatWindows 5 = .ok (.istore 4, 2) := by decide +kernel
theorem dX6_flatWindows_7 : decode cX6_flatWindows 7 = .ok (.iload 4, 2) := by decide +kernel
theorem dX6_flatWindows_9 : decode cX6_flatWindows 9 = .ok (.aload_n 0, 1) := by decide +kernel
theorem dX6_flatWindows_10 : decode cX6_flatWindows 10 = .ok (.getfield 19, 3) := by decide +kernel
theorem dX6_flatWindows_13 : decode cX6_flatWindows 13 = .ok (.if_icmp .ge 60, 3) := by decide +kernel
theorem dX6_flatWindows_16 : decode cX6_flatWindows 16 = .ok (.aload_n 0, 1) := by decide +kernel
theorem dX6_flatWindows_17 : decode cX6_flatWindows 17 = .ok (.iload 4, 2) := by decide +kernel
theorem dX6_flatWindows_19 : decode cX6_flatWindows 19 = .ok (.invokevirtual 37, 3) := by decide +kernel
theorem dX6_flatWindows_22 : decode cX6_flatWindows 22 = .ok (.ifCond .ne 8, 3) := by decide +kernel
theorem dX6_flatWindows_25 : decode cX6_flatWindows 25 = .ok (.iconst 0, 1) := by decide +kernel
theorem dX6_flatWindows_26 : decode cX6_flatWindows 26 = .ok (.istore_n 3, 1) := by decide +kernel
theorem dX6_flatWindows_27 : decode cX6_flatWindows 27 = .ok (.goto 32, 3) := by decide +kernel
theorem dX6_flatWindows_30 : decode cX6_flatWindows 30 = .ok (.iload_n 3, 1) := by decide +kernel
theorem dX6_flatWindows_31 : decode cX6_flatWindows 31 = .ok (.ifCond .le 26, 3) := by decide +kernel
theorem dX6_flatWindows_34 : decode cX6_flatWindows 34 = .ok (.aload_n 0, 1) := by decide +kernel
theorem dX6_flatWindows_35 : decode cX6_flatWindows 35 = .ok (.iload 4, 2) := by decide +kernel
theorem dX6_flatWindows_37 : decode cX6_flatWindows 37 = .ok (.invokevirtual 33, 3) := by decide +kernel
theorem dX6_flatWindows_40 : decode cX6_flatWindows 40 = .ok (.aload_n 0, 1) := by decide +kernel
theorem dX6_flatWindows_41 : decode cX6_flatWindows 41 = .ok (.iload 4, 2) := by decide +kernel
theorem dX6_flatWindows_43 : decode cX6_flatWindows 43 = .ok (.iconst 1, 1) := by decide +kernel
theorem dX6_flatWindows_44 : decode cX6_flatWindows 44 = .ok (.isub, 1) := by decide +kernel
theorem dX6_flatWindows_45 : decode cX6_flatWindows 45 = .ok (.invokevirtual 33, 3) := by decide +kernel
theorem dX6_flatWindows_48 : decode cX6_flatWindows 48 = .ok (.if_icmp .ne 9, 3) := by decide +kernel
theorem dX6_flatWindows_51 : decode cX6_flatWindows 51 = .ok (.iinc 3 1, 3) := by decide +kernel
theorem dX6_flatWindows_54 : decode cX6_flatWindows 54 = .ok (.goto 5, 3) := by decide +kernel
theorem dX6_flatWindows_57 : decode cX6_flatWindows 57 = .ok (.iconst 1, 1) := by decide +kernel
theorem dX6_flatWindows_58 : decode cX6_flatWindows 58 = .ok (.istore_n 3, 1) := by decide +kernel
theorem dX6_flatWindows_59 : decode cX6_flatWindows 59 = .ok (.iload_n 3, 1) := by decide +kernel
theorem dX6_flatWindows_60 : decode cX6_flatWindows 60 = .ok (.iload_n 1, 1) := by decide +kernel
theorem dX6_flatWindows_61 : decode cX6_flatWindows 61 = .ok (.if_icmp .lt 6, 3) := by decide +kernel
theorem dX6_flatWindows_64 : decode cX6_flatWindows 64 = .ok (.iinc 2 1, 3) := by decide +kernel
theorem dX6_flatWindows_67 : decode cX6_flatWindows 67 = .ok (.iinc 4 1, 3) := by decide +kernel
theorem dX6_flatWindows_70 : decode cX6_flatWindows 70 = .ok (.goto (-63), 3) := by decide +kernel
theorem dX6_flatWindows_73 : decode cX6_flatWindows 73 = .ok (.iload_n 2, 1) := by decide +kernel
theorem dX6_flatWindows_74 : decode cX6_flatWindows 74 = .ok (.ireturn, 1) := by decide +kernel
theorem dX7_init_0 : decode cX7_init 0 = .ok (.aload_n 0, 1) := by decide +kernel
theorem dX7_init_1 : decode cX7_init 1 = .ok (.invokespecial 3, 3) := by decide +kernel
theorem dX7_init_4 : decode cX7_init 4 = .ok (.aload_n 0, 1) := by decide +kernel
theorem dX7_init_5 : decode cX7_init 5 = .ok (.getstatic 9, 3) := by decide +kernel
theorem dX7_init_8 : decode cX7_init 8 = .ok (.invokevirtual 15, 3) := by decide +kernel
theorem dX7_init_11 : decode cX7_init 11 = .ok (.checkcast 16, 3) := by decide +kernel
theorem dX7_init_14 : decode cX7_init 14 = .ok (.putfield 20, 3) := by decide +kernel
theorem dX7_init_17 : decode cX7_init 17 = .ok (.return_, 1) := by decide +kernel
theorem dX7_allows_0 : decode cX7_allows 0 = .ok (.iload_n 0, 1) := by decide +kernel
theorem dX7_allows_1 : decode cX7_allows 1 = .ok (.ifCond .lt 41, 3) := by decide +kernel
theorem dX7_allows_4 : decode cX7_allows 4 = .ok (.iload_n 0, 1) := by decide +kernel
theorem dX7_allows_5 : decode cX7_allows 5 = .ok (.getstatic 23, 3) := by decide +kernel
theorem dX7_allows_8 : decode cX7_allows 8 = .ok (.arraylength, 1) := by decide +kernel
theorem dX7_allows_9 : decode cX7_allows 9 = .ok (.if_icmp .ge 33, 3) := by decide +kernel
theorem dX7_allows_12 : decode cX7_allows 12 = .ok (.iload_n 0, 1) := by decide +kernel
theorem dX7_allows_13 : decode cX7_allows 13 = .ok (.getstatic 26, 3) := by decide +kernel
theorem dX7_allows_16 : decode cX7_allows 16 = .ok (.arraylength, 1) := by decide +kernel
theorem dX7_allows_17 : decode cX7_allows 17 = .ok (.if_icmp .ge 25, 3) := by decide +kernel
theorem dX7_allows_20 : decode cX7_allows 20 = .ok (.iload_n 1, 1) := by decide +kernel
theorem dX7_allows_21 : decode cX7_allows 21 = .ok (.getstatic 23, 3) := by decide +kernel
theorem dX7_allows_24 : decode cX7_allows 24 = .ok (.iload_n 0, 1) := by decide +kernel
theorem dX7_allows_25 : decode cX7_allows 25 = .ok (.iaload, 1) := by decide +kernel
theorem dX7_allows_26 : decode cX7_allows 26 = .ok (.if_icmp .lt 16, 3) := by decide +kernel
theorem dX7_allows_29 : decode cX7_allows 29 = .ok (.iload_n 1, 1) := by decide +kernel
theorem dX7_allows_30 : decode cX7_allows 30 = .ok (.getstatic 26, 3) := by decide +kernel
theorem dX7_allows_33 : decode cX7_allows 33 = .ok (.iload_n 0, 1) := by decide +kernel
theorem dX7_allows_34 : decode cX7_allows 34 = .ok (.iaload, 1) := by decide +kernel
theorem dX7_allows_35 : decode cX7_allows 35 = .ok (.if_icmp .gt 7, 3) := by decide +kernel
theorem dX7_allows_38 : decode cX7_allows 38 = .ok (.iconst 1, 1) := by decide +kernel
theorem dX7_allows_39 : decode cX7_allows 39 = .ok (.goto 4, 3) := by decide +kernel
theorem dX7_allows_42 : decode cX7_allows 42 = .ok (.iconst 0, 1) := by decide +kernel
theorem dX7_allows_43 : decode cX7_allows 43 = .ok (.ireturn, 1) := by decide +kernel
theorem dX7_valueOf_0 : decode cX7_valueOf 0 = .ok (.iload_n 1, 1) := by decide +kernel
theorem dX7_valueOf_1 : decode cX7_valueOf 1 = .ok (.ifCond .lt 21, 3) := by decide +kernel
theorem dX7_valueOf_4 : decode cX7_valueOf 4 = .ok (.iload_n 1, 1) := by decide +kernel
theorem dX7_valueOf_5 : decode cX7_valueOf 5 = .ok (.aload_n 0, 1) := by decide +kernel
theorem dX7_valueOf_6 : decode cX7_valueOf 6 = .ok (.getfield 20, 3) := by decide +kernel
theorem dX7_valueOf_9 : decode cX7_valueOf 9 = .ok (.arraylength, 1) := by decide +kernel
theorem dX7_valueOf_10 : decode cX7_valueOf 10 = .ok (.if_icmp .ge 12, 3) := by decide +kernel
theorem dX7_valueOf_13 : decode cX7_valueOf 13 = .ok (.aload_n 0, 1) := by decide +kernel
theorem dX7_valueOf_14 : decode cX7_valueOf 14 = .ok (.getfield 20, 3) := by decide +kernel
theorem dX7_valueOf_17 : decode cX7_valueOf 17 = .ok (.iload_n 1, 1) := by decide +kernel
theorem dX7_valueOf_18 : decode cX7_valueOf 18 = .ok (.iaload, 1) := by decide +kernel
theorem dX7_valueOf_19 : decode cX7_valueOf 19 = .ok (.goto 4, 3) := by decide +kernel
theorem dX7_valueOf_22 : decode cX7_valueOf 22 = .ok (.iconst (-1), 1) := by decide +kernel
theorem dX7_valueOf_23 : decode cX7_valueOf 23 = .ok (.ireturn, 1) := by decide +kernel
theorem dX7_put_0 : decode cX7_put 0 = .ok (.iload_n 1, 1) := by decide +kernel
theorem dX7_put_1 : decode cX7_put 1 = .ok (.ifCond .lt 19, 3) := by decide +kernel
theorem dX7_put_4 : decode cX7_put 4 = .ok (.iload_n 1, 1) := by decide +kernel
theorem dX7_put_5 : decode cX7_put 5 = .ok (.aload_n 0, 1) := by decide +kernel
theorem dX7_put_6 : decode cX7_put 6 = .ok (.getfield 20, 3) := by decide +kernel
theorem dX7_put_9 : decode cX7_put 9 = .ok (.arraylength, 1) := by decide +kernel
theorem dX7_put_10 : decode cX7_put 10 = .ok (.if_icmp .ge 10, 3) := by decide +kernel
theorem dX7_put_13 : decode cX7_put 13 = .ok (.aload_n 0, 1) := by decide +kernel
theorem dX7_put_14 : decode cX7_put 14 = .ok (.getfield 20, 3) := by decide +kernel
theorem dX7_put_17 : decode cX7_put 17 = .ok (.iload_n 1, 1) := by decide +kernel
theorem dX7_put_18 : decode cX7_put 18 = .ok (.iload_n 2, 1) := by decide +kernel
theorem dX7_put_19 : decode cX7_put 19 = .ok (.iastore, 1) := by decide +kernel
theorem dX7_put_20 : decode cX7_put 20 = .ok (.return_, 1) := by decide +kernel
set_option maxRecDepth 20000 in
theorem ggX7_clear_X7_put : GoodIn wsX7_clear wsX7_put := goodIn_r _ [6, 7, 8] (by decide +kernel) (by decide +kernel)
set_option maxRecDepth 20000 in
theorem gX7_clear_X7_put : GoodIn wsX7_clear (wsV RX7 29 RX7 yX7_put wsX7_put) := goodIn_app (goodIn_of _ (by decide +kernel)) ggX7_clear_X7_put
theorem dX7_clear_0 : decode cX7_clear 0 = .ok (.iconst 0, 1) := by decide +kernel
theorem dX7_clear_1 : decode cX7_clear 1 = .ok (.istore_n 1, 1) := by decide +kernel
theorem dX7_clear_2 : decode cX7_clear 2 = .ok (.iload_n 1, 1) := by decide +kernel
theorem dX7_clear_3 : decode cX7_clear 3 = .ok (.getstatic 9, 3) := by decide +kernel
theorem dX7_clear_6 : decode cX7_clear 6 = .ok (.arraylength, 1) := by decide +kernel
theorem dX7_clear_7 : decode cX7_clear 7 = .ok (.if_icmp .ge 19, 3) := by decide +kernel
theorem dX7_clear_10 : decode cX7_clear 10 = .ok (.aload_n 0, 1) := by decide +kernel
theorem dX7_clear_11 : decode cX7_clear 11 = .ok (.iload_n 1, 1) := by decide +kernel
theorem dX7_clear_12 : decode cX7_clear 12 = .ok (.getstatic 9, 3) := by decide +kernel
theorem dX7_clear_15 : decode cX7_clear 15 = .ok (.iload_n 1, 1) := by decide +kernel
theorem dX7_clear_16 : decode cX7_clear 16 = .ok (.iaload, 1) := by decide +kernel
theorem dX7_clear_17 : decode cX7_clear 17 = .ok (.invokevirtual 29, 3) := by decide +kernel
theorem dX7_clear_20 : decode cX7_clear 20 = .ok (.iinc 1 1, 3) := by decide +kernel
theorem dX7_clear_23 : decode cX7_clear 23 = .ok (.goto (-21), 3) := by decide +kernel
theorem dX7_clear_26 : decode cX7_clear 26 = .ok (.return_, 1) := by decide +kernel
set_option maxRecDepth 20000 in
theorem ggX7_takeFrom_X7_valueOf : GoodIn wsX7_takeFrom wsX7_valueOf := goodIn_r _ [6, 1, 7] (by decide +kernel) (by decide +kernel)
set_option maxRecDepth 20000 in
theorem gX7_takeFrom_X7_valueOf : GoodIn wsX7_takeFrom (wsV RX7 33 RX7 yX7_valueOf wsX7_valueOf) := goodIn_app (goodIn_of _ (by decide +kernel)) ggX7_takeFrom_X7_valueOf
theorem dX7_takeFrom_0 : decode cX7_takeFrom 0 = .ok (.iconst 0, 1) := by decide +kernel
theorem dX7_takeFrom_1 : decode cX7_takeFrom 1 = .ok (.istore_n 2, 1) := by decide +kernel
theorem dX7_takeFrom_2 : decode cX7_takeFrom 2 = .ok (.iload_n 2, 1) := by decide +kernel
theorem dX7_takeFrom_3 : decode cX7_takeFrom 3 = .ok (.aload_n 0, 1) := by decide +kernel
theorem dX7_takeFrom_4 : decode cX7_takeFrom 4 = .ok (.getfield 20, 3) := by decide +kernel
theorem dX7_takeFrom_7 : decode cX7_takeFrom 7 = .ok (.arraylength, 1) := by decide +kernel
theorem dX7_takeFrom_8 : decode cX7_takeFrom 8 = .ok (.if_icmp .ge 20, 3) := by decide +kernel
theorem dX7_takeFrom_11 : decode cX7_takeFrom 11 = .ok (.aload_n 0, 1) := by decide +kernel
theorem dX7_takeFrom_12 : decode cX7_takeFrom 12 = .ok (.getfield 20, 3) := by decide +kernel
theorem dX7_takeFrom_15 : decode cX7_takeFrom 15 = .ok (.iload_n 2, 1) := by decide +kernel
theorem dX7_takeFrom_16 : decode cX7_takeFrom 16 = .ok (.aload_n 1, 1) := by decide +kernel
theorem dX7_takeFrom_17 : decode cX7_takeFrom 17 = .ok (.iload_n 2, 1) := by decide +kernel
theorem dX7_takeFrom_18 : decode cX7_takeFrom 18 = .ok (.invokevirtual 33, 3) := by decide +kernel
theorem dX7_takeFrom_21 : decode cX7_takeFrom 21 = .ok (.iastore, 1) := by decide +kernel
theorem dX7_takeFrom_22 : decode cX7_takeFrom 22 = .ok (.iinc 2 1, 3) := by decide +kernel
theorem dX7_takeFrom_25 : decode cX7_takeFrom 25 = .ok (.goto (-23), 3) := by decide +kernel
theorem dX7_takeFrom_28 : decode cX7_takeFrom 28 = .ok (.return_, 1) := by decide +kernel
set_option maxRecDepth 20000 in
theorem ggX8_init_X7_init : GoodIn wsX8_init wsX7_init := goodIn_r _ [11, 12, 2, 3, 13, 14, 15, 16, 17, 18, 19, 20, 25] (by decide +kernel) (by decide +kernel)
set_option maxRecDepth 20000 in
theorem gX8_init_X7_init_n17 : GoodIn wsX8_init (wsX7_init) := ggX8_init_X7_init
theorem dX8_init_0 : decode cX8_init 0 = .ok (.aload_n 0, 1) := by decide +kernel
theorem dX8_init_1 : decode cX8_init 1 = .ok (.invokespecial 3, 3) := by decide +kernel
theorem dX8_init_4 : decode cX8_init 4 = .ok (.aload_n 0, 1) := by decide +kernel
theorem dX8_init_5 : decode cX8_init 5 = .ok (.sipush 160, 3) := by decide +kernel
theorem dX8_init_8 : decode cX8_init 8 = .ok (.newarray .int, 2) := by decide +kernel
theorem dX8_init_10 : decode cX8_init 10 = .ok (.putfield 9, 3) := by decide +kernel
theorem dX8_init_13 : decode cX8_init 13 = .ok (.aload_n 0, 1) := by decide +kernel
theorem dX8_init_14 : decode cX8_init 14 = .ok (.new 15, 3) := by decide +kernel
theorem dX8_init_17 : decode cX8_init 17 = .ok (.dup, 1) := by decide +kernel
theorem dX8_init_18 : decode cX8_init 18 = .ok (.invokespecial 17, 3) := by decide +kernel
theorem dX8_init_21 : decode cX8_init 21 = .ok (.putfield 18, 3) := by decide +kernel
theorem dX8_init_24 : decode cX8_init 24 = .ok (.return_, 1) := by decide +kernel
set_option maxRecDepth 20000 in
theorem ggX8_clear_X7_clear : GoodIn wsX8_clear wsX7_clear := goodIn_r _ [7, 8, 9, 10, 11, 6, 12, 13, 18] (by decide +kernel) (by decide +kernel)
set_option maxRecDepth 20000 in
theorem gX8_clear_X7_clear : GoodIn wsX8_clear (wsV RX8 26 RX7 yX7_clear wsX7_clear) := goodIn_app (goodIn_of _ (by decide +kernel)) ggX8_clear_X7_clear
theorem dX8_clear_0 : decode cX8_clear 0 = .ok (.aload_n 0, 1) := by decide +kernel
theorem dX8_clear_1 : decode cX8_clear 1 = .ok (.iconst 0, 1) := by decide +kernel
theorem dX8_clear_2 : decode cX8_clear 2 = .ok (.putfield 22, 3) := by decide +kernel
theorem dX8_clear_5 : decode cX8_clear 5 = .ok (.aload_n 0, 1) := by decide +kernel
theorem dX8_clear_6 : decode cX8_clear 6 = .ok (.getfield 18, 3) := by decide +kernel
theorem dX8_clear_9 : decode cX8_clear 9 = .ok (.invokevirtual 26, 3) := by decide +kernel
theorem dX8_clear_12 : decode cX8_clear 12 = .ok (.return_, 1) := by decide +kernel
theorem dX8_append_0 : decode cX8_append 0 = .ok (.aload_n 0, 1) := by decide +kernel
theorem dX8_append_1 : decode cX8_append 1 = .ok (.getfield 22, 3) := by decide +kernel
theorem dX8_append_4 : decode cX8_append 4 = .ok (.ifCond .lt 35, 3) := by decide +kernel
theorem dX8_append_7 : decode cX8_append 7 = .ok (.aload_n 0, 1) := by decide +kernel
theorem dX8_append_8 : decode cX8_append 8 = .ok (.getfield 22, 3) := by decide +kernel
theorem dX8_append_11 : decode cX8_append 11 = .ok (.aload_n 0, 1) := by decide +kernel
theorem dX8_append_12 : decode cX8_append 12 = .ok (.getfield 9, 3) := by decide +kernel
theorem dX8_append_15 : decode cX8_append 15 = .ok (.arraylength, 1) := by decide +kernel
theorem dX8_append_16 : decode cX8_append 16 = .ok (.if_icmp .ge 23, 3) := by decide +kernel
theorem dX8_append_19 : decode cX8_append 19 = .ok (.aload_n 0, 1) := by decide +kernel
theorem dX8_append_20 : decode cX8_append 20 = .ok (.getfield 9, 3) := by decide +kernel
theorem dX8_append_23 : decode cX8_append 23 = .ok (.aload_n 0, 1) := by decide +kernel
theorem dX8_append_24 : decode cX8_append 24 = .ok (.getfield 22, 3) := by decide +kernel
theorem dX8_append_27 : decode cX8_append 27 = .ok (.iload_n 1, 1) := by decide +kernel
theorem dX8_append_28 : decode cX8_append 28 = .ok (.iastore, 1) := by decide +kernel
theorem dX8_append_29 : decode cX8_append 29 = .ok (.aload_n 0, 1) := by decide +kernel
theorem dX8_append_30 : decode cX8_append 30 = .ok (.dup, 1) := by decide +kernel
theorem dX8_append_31 : decode cX8_append 31 = .ok (.getfield 22, 3) := by decide +kernel
theorem dX8_append_34 : decode cX8_append 34 = .ok (.iconst 1, 1) := by decide +kernel
theorem dX8_append_35 : decode cX8_append 35 = .ok (.iadd, 1) := by decide +kernel
theorem dX8_append_36 : decode cX8_append 36 = .ok (.putfield 22, 3) := by decide +kernel
theorem dX8_append_39 : decode cX8_append 39 = .ok (.return_, 1) := by decide +kernel
theorem dX8_valueAt_0 : decode cX8_valueAt 0 = .ok (.iload_n 1, 1) := by decide +kernel
theorem dX8_valueAt_1 : decode cX8_valueAt 1 = .ok (.ifCond .lt 29, 3) := by decide +kernel
theorem dX8_valueAt_4 : decode cX8_valueAt 4 = .ok (.iload_n 1, 1) := by decide +kernel
theorem dX8_valueAt_5 : decode cX8_valueAt 5 = .ok (.aload_n 0, 1) := by decide +kernel
theorem dX8_valueAt_6 : decode cX8_valueAt 6 = .ok (.getfield 22, 3) := by decide +kernel
theorem dX8_valueAt_9 : decode cX8_valueAt 9 = .ok (.if_icmp .ge 21, 3) := by decide +kernel
theorem dX8_valueAt_12 : decode cX8_valueAt 12 = .ok (.iload_n 1, 1) := by decide +kernel
theorem dX8_valueAt_13 : decode cX8_valueAt 13 = .ok (.aload_n 0, 1) := by decide +kernel
theorem dX8_valueAt_14 : decode cX8_valueAt 14 = .ok (.getfield 9, 3) := by decide +kernel
theorem dX8_valueAt_17 : decode cX8_valueAt 17 = .ok (.arraylength, 1) := by decide +kernel
theorem dX8_valueAt_18 : decode cX8_valueAt 18 = .ok (.if_icmp .ge 12, 3) := by decide +kernel
theorem dX8_valueAt_21 : decode cX8_valueAt 21 = .ok (.aload_n 0, 1) := by decide +kernel
theorem dX8_valueAt_22 : decode cX8_valueAt 22 = .ok (.getfield 9, 3) := by decide +kernel
theorem dX8_valueAt_25 : decode cX8_valueAt 25 = .ok (.iload_n 1, 1) := by decide +kernel
theorem dX8_valueAt_26 : decode cX8_valueAt 26 = .ok (.iaload, 1) := by decide +kernel
theorem dX8_valueAt_27 : decode cX8_valueAt 27 = .ok (.goto 6, 3) := by decide +kernel
theorem dX8_valueAt_30 : decode cX8_valueAt 30 = .ok (.sipush (-1000), 3) := by decide +kernel
theorem dX8_valueAt_33 : decode cX8_valueAt 33 = .ok (.ireturn, 1) := by decide +kernel
theorem dX9_init_0 : decode cX9_init 0 = .ok (.aload_n 0, 1) := by decide +kernel
theorem dX9_init_1 : decode cX9_init 1 = .ok (.invokespecial 3, 3) := by decide +kernel
theorem dX9_init_4 : decode cX9_init 4 = .ok (.aload_n 0, 1) := by decide +kernel
theorem dX9_init_5 : decode cX9_init 5 = .ok (.sipush 2560, 3) := by decide +kernel
theorem dX9_init_8 : decode cX9_init 8 = .ok (.newarray .int, 2) := by decide +kernel
theorem dX9_init_10 : decode cX9_init 10 = .ok (.putfield 9, 3) := by decide +kernel
theorem dX9_init_13 : decode cX9_init 13 = .ok (.aload_n 0, 1) := by decide +kernel
theorem dX9_init_14 : decode cX9_init 14 = .ok (.sipush 160, 3) := by decide +kernel
theorem dX9_init_17 : decode cX9_init 17 = .ok (.newarray .boolean, 2) := by decide +kernel
theorem dX9_init_19 : decode cX9_init 19 = .ok (.putfield 15, 3) := by decide +kernel
theorem dX9_init_22 : decode cX9_init 22 = .ok (.aload_n 0, 1) := by decide +kernel
theorem dX9_init_23 : decode cX9_init 23 = .ok (.aload_n 1, 1) := by decide +kernel
theorem dX9_init_24 : decode cX9_init 24 = .ok (.putfield 19, 3) := by decide +kernel
theorem dX9_init_27 : decode cX9_init 27 = .ok (.aload_n 0, 1) := by decide +kernel
theorem dX9_init_28 : decode cX9_init 28 = .ok (.aload_n 1, 1) := by decide +kernel
theorem dX9_init_29 : decode cX9_init 29 = .ok (.getfield 23, 3) := by decide +kernel
theorem dX9_init_32 : decode cX9_init 32 = .ok (.putfield 29, 3) := by decide +kernel
theorem dX9_init_35 : decode cX9_init 35 = .ok (.return_, 1) := by decide +kernel
set_option maxRecDepth 20000 in
theorem ggX9_bringAll_X6_hasWindow : GoodIn wsX9_bringAll wsX6_hasWindow := goodIn_r _ [10, 11, 12, 13, 14, 9, 15, 16, 17, 18, 19, 20, 21, 106, 107, 108] (by decide +kernel) (by decide +kernel)
set_option maxRecDepth 20000 in
theorem gX9_bringAll_X6_hasWindow : GoodIn wsX9_bringAll (wsV RX9 34 RX6 yX6_hasWindow wsX6_hasWindow) := goodIn_app (goodIn_of _ (by decide +kernel)) ggX9_bringAll_X6_hasWindow
set_option maxRecDepth 20000 in
theorem ggX9_bringAll_X0_openWindow : GoodIn wsX9_bringAll wsX0_openWindow := goodIn_r _ [26, 27, 28, 29, 30, 31, 32, 33, 34, 35, 36, 37, 38, 39, 40, 25, 41, 42, 43, 44, 45, 46, 47, 48, 49, 50, 51, 52, 53, 54, 55, 56, 57, 58, 59, 9, 60, 16, 17, 18, 19, 11, 20, 21, 61, 62, 63, 64, 65, 66, 67, 68, 69, 70, 71, 72, 73, 74, 75, 76, 77, 78, 79, 80, 101, 102, 103, 104, 105, 109, 110, 111, 112, 113, 114, 115, 116, 117, 118, 119, 106, 107, 108] (by decide +kernel) (by decide +kernel)
set_option maxRecDepth 20000 in
theorem gX9_bringAll_X0_openWindow : GoodIn wsX9_bringAll (wsV RX9 40 RX0 yX0_openWindow wsX0_openWindow) := goodIn_app (goodIn_of _ (by decide +kernel)) ggX9_bringAll_X0_openWindow
set_option maxRecDepth 20000 in
theorem ggX9_bringAll_X2_giveLeft : GoodIn wsX9_bringAll wsX2_giveLeft := goodIn_r _ [84, 85, 86, 87, 88, 45, 89, 54, 109, 110, 111, 112, 113, 114, 115, 116, 117, 118] (by decide +kernel) (by decide +kernel)
set_option maxRecDepth 20000 in
theorem gX9_bringAll_X2_giveLeft : GoodIn wsX9_bringAll (wsV RX9 44 RX2 yX2_giveLeft wsX2_giveLeft) := goodIn_app (goodIn_of _ (by decide +kernel)) ggX9_bringAll_X2_giveLeft
theorem dX9_bringAll_0 : decode cX9_bringAll 0 = .ok (.iconst 0, 1) := by decide +kernel
theorem dX9_bringAll_1 : decode cX9_bringAll 1 = .ok (.istore_n 2, 1) := by decide +kernel
theorem dX9_bringAll_2 : decode cX9_bringAll 2 = .ok (.iload_n 2, 1) := by decide +kernel
theorem dX9_bringAll_3 : decode cX9_bringAll 3 = .ok (.sipush 160, 3) := by decide +kernel
theorem dX9_bringAll_6 : decode cX9_bringAll 6 = .ok (.if_icmp .ge 60, 3) := by decide +kernel
theorem dX9_bringAll_9 : decode cX9_bringAll 9 = .ok (.aload_n 0, 1) := by decide +kernel
theorem dX9_bringAll_10 : decode cX9_bringAll 10 = .ok (.getfield 15, 3) := by decide +kernel
theorem dX9_bringAll_13 : decode cX9_bringAll 13 = .ok (.iload_n 2, 1) := by decide +kernel
theorem dX9_bringAll_14 : decode cX9_bringAll 14 = .ok (.aload_n 0, 1) := by decide +kernel
theorem dX9_bringAll_15 : decode cX9_bringAll 15 = .ok (.getfield 19, 3) := by decide +kernel
theorem dX9_bringAll_18 : decode cX9_bringAll 18 = .ok (.getfield 30, 3) := by decide +kernel
theorem dX9_bringAll_21 : decode cX9_bringAll 21 = .ok (.iload_n 2, 1) := by decide +kernel
theorem dX9_bringAll_22 : decode cX9_bringAll 22 = .ok (.iload_n 1, 1) := by decide +kernel
theorem dX9_bringAll_23 : decode cX9_bringAll 23 = .ok (.invokevirtual 34, 3) := by decide +kernel
theorem dX9_bringAll_26 : decode cX9_bringAll 26 = .ok (.bastore, 1) := by decide +kernel
theorem dX9_bringAll_27 : decode cX9_bringAll 27 = .ok (.aload_n 0, 1) := by decide +kernel
theorem dX9_bringAll_28 : decode cX9_bringAll 28 = .ok (.getfield 15, 3) := by decide +kernel
theorem dX9_bringAll_31 : decode cX9_bringAll 31 = .ok (.iload_n 2, 1) := by decide +kernel
theorem dX9_bringAll_32 : decode cX9_bringAll 32 = .ok (.baload, 1) := by decide +kernel
theorem dX9_bringAll_33 : decode cX9_bringAll 33 = .ok (.ifCond .eq 27, 3) := by decide +kernel
theorem dX9_bringAll_36 : decode cX9_bringAll 36 = .ok (.aload_n 0, 1) := by decide +kernel
theorem dX9_bringAll_37 : decode cX9_bringAll 37 = .ok (.getfield 19, 3) := by decide +kernel
theorem dX9_bringAll_40 : decode cX9_bringAll 40 = .ok (.iload_n 2, 1) := by decide +kernel
theorem dX9_bringAll_41 : decode cX9_bringAll 41 = .ok (.iload_n 1, 1) := by decide +kernel
theorem dX9_bringAll_42 : decode cX9_bringAll 42 = .ok (.invokevirtual 40, 3) := by decide +kernel
theorem dX9_bringAll_45 : decode cX9_bringAll 45 = .ok (.aload_n 0, 1) := by decide +kernel
theorem dX9_bringAll_46 : decode cX9_bringAll 46 = .ok (.getfield 29, 3) := by decide +kernel
theorem dX9_bringAll_49 : decode cX9_bringAll 49 = .ok (.aload_n 0, 1) := by decide +kernel
theorem dX9_bringAll_50 : decode cX9_bringAll 50 = .ok (.getfield 9, 3) := by decide +kernel
theorem dX9_bringAll_53 : decode cX9_bringAll 53 = .ok (.iload_n 2, 1) := by decide +kernel
theorem dX9_bringAll_54 : decode cX9_bringAll 54 = .ok (.bipush 16, 2) := by decide +kernel
theorem dX9_bringAll_56 : decode cX9_bringAll 56 = .ok (.imul, 1) := by decide +kernel
theorem dX9_bringAll_57 : decode cX9_bringAll 57 = .ok (.invokevirtual 44, 3) := by decide +kernel
theorem dX9_bringAll_60 : decode cX9_bringAll 60 = .ok (.iinc 2 1, 3) := by decide +kernel
theorem dX9_bringAll_63 : decode cX9_bringAll 63 = .ok (.goto (-61), 3) := by decide +kernel
theorem dX9_bringAll_66 : decode cX9_bringAll 66 = .ok (.return_, 1) := by decide +kernel
set_option maxRecDepth 20000 in
theorem ggX9_findNear_X9_bringAll : GoodIn wsX9_findNear wsX9_bringAll := goodIn_r _ [5, 6, 7, 8, 9, 10, 11, 12, 13, 14, 15, 16, 17, 18, 19, 20, 21, 22, 23, 24, 25, 26, 27, 28, 29, 30, 31, 32, 33, 34, 35, 36, 37, 38, 39, 40, 41, 42, 43, 44, 45, 46, 47, 48, 49, 50, 51, 52, 53, 54, 55, 56, 57, 58, 59, 60, 61, 62, 63, 64, 65, 66, 67, 68, 69, 70, 71, 72, 73, 74, 75, 76, 77, 78, 79, 80, 81, 82, 83, 84, 85, 86, 87, 88, 89, 90, 91, 92, 93, 94, 147, 148, 149, 150, 151, 152, 153, 154, 155, 156, 157, 158, 159, 160, 161, 162, 163, 164, 165, 166, 167, 168, 169, 170, 171, 172, 173, 174, 175, 176] (by decide +kernel) (by decide +kernel)
set_option maxRecDepth 20000 in
theorem gX9_findNear_X9_bringAll : GoodIn wsX9_findNear (wsV RX9 50 RX9 yX9_bringAll wsX9_bringAll) := goodIn_app (goodIn_of _ (by decide +kernel)) ggX9_findNear_X9_bringAll
set_option maxRecDepth 20000 in
theorem ggX9_findNear_X9_findNearest : GoodIn wsX9_findNear wsX9_findNearest := goodIn_r _ [98, 99, 100, 101, 9, 10, 6, 102, 103, 54, 104, 105, 106, 107, 50, 108, 90, 91, 92, 93, 94, 59, 109, 110, 111, 112, 113, 114, 115, 116, 117, 118, 119, 120, 121, 122, 123, 124, 125, 126, 61, 127, 128, 129, 130, 131, 132, 133, 134, 135, 60, 56, 57, 58, 52, 53, 55, 136, 137, 138, 139, 140, 141, 142, 143, 144, 145, 146, 147, 148, 149, 150, 151, 152, 153, 154, 155, 156, 157, 166, 167, 168, 169, 170, 171, 172, 173, 174, 175] (by decide +kernel) (by decide +kernel)
set_option maxRecDepth 20000 in
theorem gX9_findNear_X9_findNearest : GoodIn wsX9_findNear (wsV RX9 54 RX9 yX9_findNearest wsX9_findNearest) := goodIn_app (goodIn_of _ (by decide +kernel)) ggX9_findNear_X9_findNearest
theorem dX9_findNear_0 : decode cX9_findNear 0 = .ok (.aload_n 0, 1) := by decide +kernel
theorem dX9_findNear_1 : decode cX9_findNear 1 = .ok (.iload_n 2, 1) := by decide +kernel
theorem dX9_findNear_2 : decode cX9_findNear 2 = .ok (.invokevirtual 50, 3) := by decide +kernel
theorem dX9_findNear_5 : decode cX9_findNear 5 = .ok (.aload_n 0, 1) := by decide +kernel
theorem dX9_findNear_6 : decode cX9_findNear 6 = .ok (.iload_n 1, 1) := by decide +kernel
theorem dX9_findNear_7 : decode cX9_findNear 7 = .ok (.iload_n 2, 1) := by decide +kernel
theorem dX9_findNear_8 : decode cX9_findNear 8 = .ok (.iconst (-1), 1) := by decide +kernel
theorem dX9_findNear_9 : decode cX9_findNear 9 = .ok (.invokevirtual 54, 3) := by decide +kernel
theorem dX9_findNear_12 : decode cX9_findNear 12 = .ok (.return_, 1) := by decide +kernel
set_option maxRecDepth 20000 in
theorem ggX9_findNearest_X2_takeLeft : GoodIn wsX9_findNearest wsX2_takeLeft := goodIn_r _ [15, 16, 17, 18, 19, 14, 20, 21, 79, 80, 81, 82, 83, 84, 85, 86, 87, 88] (by decide +kernel) (by decide +kernel)
set_option maxRecDepth 20000 in
theorem gX9_findNearest_X2_takeLeft : GoodIn wsX9_findNearest (wsV RX9 66 RX2 yX2_takeLeft wsX2_takeLeft) := goodIn_app (goodIn_of _ (by decide +kernel)) ggX9_findNearest_X2_takeLeft
set_option maxRecDepth 20000 in
theorem ggX9_findNearest_X2_takeRight : GoodIn wsX9_findNearest wsX2_takeRight := goodIn_r _ [25, 26, 17, 18, 19, 14, 20, 21, 79, 80, 81, 82, 83, 84, 85, 86, 87, 88] (by decide +kernel) (by decide +kernel)
set_option maxRecDepth 20000 in
theorem gX9_findNearest_X2_takeRight : GoodIn wsX9_findNearest (wsV RX9 75 RX2 yX2_takeRight wsX2_takeRight) := goodIn_app (goodIn_of _ (by decide +kernel)) ggX9_findNearest_X2_takeRight
set_option maxRecDepth 20000 in
theorem ggX9_findNearest_X2_isLess : GoodIn wsX9_findNearest wsX2_isLess := goodIn_r _ [30, 31, 32, 33, 34, 14, 35, 21, 16, 26, 36, 37, 38, 39, 40, 41, 42, 43, 44, 45, 46, 47, 48, 49, 50, 51, 52, 9, 53, 54, 55, 56, 57, 58, 59, 60, 61, 62, 63, 64, 65, 66, 79, 80, 81, 82, 83, 84, 85, 86, 87, 88] (by decide +kernel) (by decide +kernel)
set_option maxRecDepth 20000 in
theorem gX9_findNearest_X2_isLess : GoodIn wsX9_findNearest (wsV RX9 78 RX2 yX2_isLess wsX2_isLess) := goodIn_app (goodIn_of _ (by decide +kernel)) ggX9_findNearest_X2_isLess
set_option maxRecDepth 20000 in
theorem ggX9_findNearest_X2_laidDistance : GoodIn wsX9_findNearest wsX2_laidDistance := goodIn_r _ [66, 58, 21, 79, 80, 81, 82, 83, 84, 85, 86, 87, 88] (by decide +kernel) (by decide +kernel)
set_option maxRecDepth 20000 in
theorem gX9_findNearest_X2_laidDistance : GoodIn wsX9_findNearest (wsV RX9 82 RX2 yX2_laidDistance wsX2_laidDistance) := goodIn_app (goodIn_of _ (by decide +kernel)) ggX9_findNearest_X2_laidDistance
theorem dX9_findNearest_0 : decode cX9_findNearest 0 = .ok (.aload_n 0, 1) := by decide +kernel
theorem dX9_findNearest_1 : decode cX9_findNearest 1 = .ok (.bipush (-2), 2) := by decide +kernel
theorem dX9_findNearest_3 : decode cX9_findNearest 3 = .ok (.putfield 58, 3) := by decide +kernel
theorem dX9_findNearest_6 : decode cX9_findNearest 6 = .ok (.aload_n 0, 1) := by decide +kernel
theorem dX9_findNearest_7 : decode cX9_findNearest 7 = .ok (.bipush (-2), 2) := by decide +kernel
theorem dX9_findNearest_9 : decode cX9_findNearest 9 = .ok (.putfield 62, 3) := by decide +kernel
theorem dX9_findNearest_12 : decode cX9_findNearest 12 = .ok (.ldc 65, 2) := by decide +kernel
theorem dX9_findNearest_14 : decode cX9_findNearest 14 = .ok (.istore 4, 2) := by decide +kernel
theorem dX9_findNearest_16 : decode cX9_findNearest 16 = .ok (.aload_n 0, 1) := by decide +kernel
theorem dX9_findNearest_17 : decode cX9_findNearest 17 = .ok (.getfield 29, 3) := by decide +kernel
theorem dX9_findNearest_20 : decode cX9_findNearest 20 = .ok (.aload_n 0, 1) := by decide +kernel
theorem dX9_findNearest_21 : decode cX9_findNearest 21 = .ok (.getfield 9, 3) := by decide +kernel
theorem dX9_findNearest_24 : decode cX9_findNearest 24 = .ok (.iload_n 1, 1) := by decide +kernel
theorem dX9_findNearest_25 : decode cX9_findNearest 25 = .ok (.bipush 16, 2) := by decide +kernel
theorem dX9_findNearest_27 : decode cX9_findNearest 27 = .ok (.imul, 1) := by decide +kernel
theorem dX9_findNearest_28 : decode cX9_findNearest 28 = .ok (.invokevirtual 66, 3) := by decide +kernel
theorem dX9_findNearest_31 : decode cX9_findNearest 31 = .ok (.iconst 0, 1) := by decide +kernel
theorem dX9_findNearest_32 : decode cX9_findNearest 32 = .ok (.istore 5, 2) := by decide +kernel
theorem dX9_findNearest_34 : decode cX9_findNearest 34 = .ok (.iload 5, 2) := by decide +kernel
theorem dX9_findNearest_36 : decode cX9_findNearest 36 = .ok (.sipush 160, 3) := by decide +kernel
theorem dX9_findNearest_39 : decode cX9_findNearest 39 = .ok (.if_icmp .ge 88, 3) := by decide +kernel
theorem dX9_findNearest_42 : decode cX9_findNearest 42 = .ok (.iload 4, 2) := by decide +kernel
theorem dX9_findNearest_44 : decode cX9_findNearest 44 = .ok (.iload_n 3, 1) := by decide +kernel
theorem dX9_findNearest_45 : decode cX9_findNearest 45 = .ok (.if_icmp .le 82, 3) := by decide +kernel
theorem dX9_findNearest_48 : decode cX9_findNearest 48 = .ok (.aload_n 0, 1) := by decide +kernel
theorem dX9_findNearest_49 : decode cX9_findNearest 49 = .ok (.getfield 15, 3) := by decide +kernel
theorem dX9_findNearest_52 : decode cX9_findNearest 52 = .ok (.iload 5, 2) := by decide +kernel
theorem dX9_findNearest_54 : decode cX9_findNearest 54 = .ok (.baload, 1) := by decide +kernel
theorem dX9_findNearest_55 : decode cX9_findNearest 55 = .ok (.ifCond .eq 66, 3) := by decide +kernel
theorem dX9_findNearest_58 : decode cX9_findNearest 58 = .ok (.iload 5, 2) := by decide +kernel
theorem dX9_findNearest_60 : decode cX9_findNearest 60 = .ok (.iload_n 1, 1) := by decide +kernel
theorem dX9_findNearest_61 : decode cX9_findNearest 61 = .ok (.isub, 1) := by decide +kernel
theorem dX9_findNearest_62 : decode cX9_findNearest 62 = .ok (.invokestatic 69, 3) := by decide +kernel
theorem dX9_findNearest_65 : decode cX9_findNearest 65 = .ok (.iload_n 2, 1) := by decide +kernel
theorem dX9_findNearest_66 : decode cX9_findNearest 66 = .ok (.if_icmp .ge 6, 3) := by decide +kernel
theorem dX9_findNearest_69 : decode cX9_findNearest 69 = .ok (.goto 52, 3) := by decide +kernel
theorem dX9_findNearest_72 : decode cX9_findNearest 72 = .ok (.aload_n 0, 1) := by decide +kernel
theorem dX9_findNearest_73 : decode cX9_findNearest 73 = .ok (.getfield 29, 3) := by decide +kernel
theorem dX9_findNearest_76 : decode cX9_findNearest 76 = .ok (.aload_n 0, 1) := by decide +kernel
theorem dX9_findNearest_77 : decode cX9_findNearest 77 = .ok (.getfield 9, 3) := by decide +kernel
theorem dX9_findNearest_80 : decode cX9_findNearest 80 = .ok (.iload 5, 2) := by decide +kernel
theorem dX9_findNearest_82 : decode cX9_findNearest 82 = .ok (.bipush 16, 2) := by decide +kernel
theorem dX9_findNearest_84 : decode cX9_findNearest 84 = .ok (.imul, 1) := by decide +kernel
theorem dX9_findNearest_85 : decode cX9_findNearest 85 = .ok (.invokevirtual 75, 3) := by decide +kernel
theorem dX9_findNearest_88 : decode cX9_findNearest 88 = .ok (.aload_n 0, 1) := by decide +kernel
theorem dX9_findNearest_89 : decode cX9_findNearest 89 = .ok (.getfield 29, 3) := by decide +kernel
theorem dX9_findNearest_92 : decode cX9_findNearest 92 = .ok (.iload 4, 2) := by decide +kernel
theorem dX9_findNearest_94 : decode cX9_findNearest 94 = .ok (.invokevirtual 78, 3) := by decide +kernel
theorem dX9_findNearest_97 : decode cX9_findNearest 97 = .ok (.ifCond .eq 24, 3) := by decide +kernel
theorem dX9_findNearest_100 : decode cX9_findNearest 100 = .ok (.aload_n 0, 1) := by decide +kernel
theorem dX9_findNearest_101 : decode cX9_findNearest 101 = .ok (.getfield 29, 3) := by decide +kernel
theorem dX9_findNearest_104 : decode cX9_findNearest 104 = .ok (.invokevirtual 82, 3) := by decide +kernel
theorem dX9_findNearest_107 : decode cX9_findNearest 107 = .ok (.istore 4, 2) := by decide +kernel
theorem dX9_findNearest_109 : decode cX9_findNearest 109 = .ok (.aload_n 0, 1) := by decide +kernel
theorem dX9_findNearest_110 : decode cX9_findNearest 110 = .ok (.iload 5, 2) := by decide +kernel
theorem dX9_findNearest_112 : decode cX9_findNearest 112 = .ok (.putfield 58, 3) := by decide +kernel
theorem dX9_findNearest_115 : decode cX9_findNearest 115 = .ok (.aload_n 0, 1) := by decide +kernel
theorem dX9_findNearest_116 : decode cX9_findNearest 116 = .ok (.iload 4, 2) := by decide +kernel
theorem dX9_findNearest_118 : decode cX9_findNearest 118 = .ok (.putfield 62, 3) := by decide +kernel
theorem dX9_findNearest_121 : decode cX9_findNearest 121 = .ok (.iinc 5 1, 3) := by decide +kernel
theorem dX9_findNearest_124 : decode cX9_findNearest 124 = .ok (.goto (-90), 3) := by decide +kernel
theorem dX9_findNearest_127 : decode cX9_findNearest 127 = .ok (.return_, 1) := by decide +kernel
set_option maxRecDepth 20000 in
theorem ggX9_findPair_X9_bringAll : GoodIn wsX9_findPair wsX9_bringAll := goodIn_r _ [11, 4, 12, 13, 5, 6, 14, 15, 16, 17, 18, 19, 20, 21, 22, 23, 24, 25, 26, 27, 28, 29, 30, 31, 32, 33, 34, 35, 36, 37, 38, 39, 40, 41, 42, 43, 44, 45, 46, 47, 48, 49, 50, 51, 52, 53, 54, 55, 56, 57, 58, 59, 60, 61, 62, 63, 64, 65, 66, 67, 68, 69, 70, 71, 72, 73, 74, 75, 76, 77, 78, 79, 80, 81, 82, 83, 84, 85, 86, 87, 88, 89, 90, 91, 92, 93, 94, 95, 96, 97, 145, 146, 147, 148, 149, 150, 151, 152, 153, 154, 155, 156, 157, 158, 159, 160, 161, 162, 163, 164, 165, 166, 167, 168, 169, 170, 171, 172, 173, 174] (by decide +kernel) (by decide +kernel)
set_option maxRecDepth 20000 in
theorem gX9_findPair_X9_bringAll : GoodIn wsX9_findPair (wsV RX9 50 RX9 yX9_bringAll wsX9_bringAll) := goodIn_app (goodIn_of _ (by decide +kernel)) ggX9_findPair_X9_bringAll
set_option maxRecDepth 20000 in
theorem ggX9_findPair_X2_takeLeft : GoodIn wsX9_findPair wsX2_takeLeft := goodIn_r _ [101, 93, 94, 95, 96, 53, 97, 62, 164, 165, 166, 167, 168, 169, 170, 171, 172, 173] (by decide +kernel) (by decide +kernel)
set_option maxRecDepth 20000 in
theorem gX9_findPair_X2_takeLeft : GoodIn wsX9_findPair (wsV RX9 66 RX2 yX2_takeLeft wsX2_takeLeft) := goodIn_app (goodIn_of _ (by decide +kernel)) ggX9_findPair_X2_takeLeft
set_option maxRecDepth 20000 in
theorem ggX9_findPair_X9_seekPairOf : GoodIn wsX9_findPair wsX9_seekPairOf := goodIn_r _ [105, 4, 5, 6, 3, 106, 1, 2, 107, 108, 109, 53, 110, 111, 94, 95, 96, 97, 62, 112, 113, 114, 115, 116, 117, 118, 119, 120, 93, 121, 122, 123, 124, 64, 125, 126, 127, 128, 129, 130, 131, 132, 133, 63, 59, 60, 57, 61, 55, 56, 58, 134, 135, 136, 137, 138, 139, 140, 141, 142, 143, 144, 145, 146, 147, 148, 149, 150, 151, 152, 153, 154, 155, 164, 165, 166, 167, 168, 169, 170, 171, 172, 173] (by decide +kernel) (by decide +kernel)
set_option maxRecDepth 20000 in
theorem gX9_findPair_X9_seekPairOf : GoodIn wsX9_findPair (wsV RX9 95 RX9 yX9_seekPairOf wsX9_seekPairOf) := goodIn_app (goodIn_of _ (by decide +kernel)) ggX9_findPair_X9_seekPairOf
theorem dX9_findPair_0 : decode cX9_findPair 0 = .ok (.aload_n 0, 1) := by decide +kernel
theorem dX9_findPair_1 : decode cX9_findPair 1 = .ok (.bipush (-2), 2) := by decide +kernel
theorem dX9_findPair_3 : decode cX9_findPair 3 = .ok (.putfield 86, 3) := by decide +kernel
theorem dX9_findPair_6 : decode cX9_findPair 6 = .ok (.aload_n 0, 1) := by decide +kernel
theorem dX9_findPair_7 : decode cX9_findPair 7 = .ok (.bipush (-2), 2) := by decide +kernel
theorem dX9_findPair_9 : decode cX9_findPair 9 = .ok (.putfield 89, 3) := by decide +kernel
theorem dX9_findPair_12 : decode cX9_findPair 12 = .ok (.aload_n 0, 1) := by decide +kernel
theorem dX9_findPair_13 : decode cX9_findPair 13 = .ok (.bipush (-2), 2) := by decide +kernel
theorem dX9_findPair_15 : decode cX9_findPair 15 = .ok (.putfield 92, 3) := by decide +kernel
theorem dX9_findPair_18 : decode cX9_findPair 18 = .ok (.aload_n 0, 1) := by decide +kernel
theorem dX9_findPair_19 : decode cX9_findPair 19 = .ok (.iload_n 1, 1) := by decide +kernel
theorem dX9_findPair_20 : decode cX9_findPair 20 = .ok (.invokevirtual 50, 3) := by decide +kernel
theorem dX9_findPair_23 : decode cX9_findPair 23 = .ok (.iconst 0, 1) := by decide +kernel
theorem dX9_findPair_24 : decode cX9_findPair 24 = .ok (.istore_n 2, 1) := by decide +kernel
theorem dX9_findPair_25 : decode cX9_findPair 25 = .ok (.iload_n 2, 1) := by decide +kernel
theorem dX9_findPair_26 : decode cX9_findPair 26 = .ok (.sipush 160, 3) := by decide +kernel
theorem dX9_findPair_29 : decode cX9_findPair 29 = .ok (.if_icmp .ge 39, 3) := by decide +kernel
theorem dX9_findPair_32 : decode cX9_findPair 32 = .ok (.aload_n 0, 1) := by decide +kernel
theorem dX9_findPair_33 : decode cX9_findPair 33 = .ok (.getfield 15, 3) := by decide +kernel
theorem dX9_findPair_36 : decode cX9_findPair 36 = .ok (.iload_n 2, 1) := by decide +kernel
theorem dX9_findPair_37 : decode cX9_findPair 37 = .ok (.baload, 1) := by decide +kernel
theorem dX9_findPair_38 : decode cX9_findPair 38 = .ok (.ifCond .eq 24, 3) := by decide +kernel
theorem dX9_findPair_41 : decode cX9_findPair 41 = .ok (.aload_n 0, 1) := by decide +kernel
theorem dX9_findPair_42 : decode cX9_findPair 42 = .ok (.getfield 29, 3) := by decide +kernel
theorem dX9_findPair_45 : decode cX9_findPair 45 = .ok (.aload_n 0, 1) := by decide +kernel
theorem dX9_findPair_46 : decode cX9_findPair 46 = .ok (.getfield 9, 3) := by decide +kernel
theorem dX9_findPair_49 : decode cX9_findPair 49 = .ok (.iload_n 2, 1) := by decide +kernel
theorem dX9_findPair_50 : decode cX9_findPair 50 = .ok (.bipush 16, 2) := by decide +kernel
theorem dX9_findPair_52 : decode cX9_findPair 52 = .ok (.imul, 1) := by decide +kernel
theorem dX9_findPair_53 : decode cX9_findPair 53 = .ok (.invokevirtual 66, 3) := by decide +kernel
theorem dX9_findPair_56 : decode cX9_findPair 56 = .ok (.aload_n 0, 1) := by decide +kernel
theorem dX9_findPair_57 : decode cX9_findPair 57 = .ok (.iload_n 2, 1) := by decide +kernel
theorem dX9_findPair_58 : decode cX9_findPair 58 = .ok (.iload_n 1, 1) := by decide +kernel
theorem dX9_findPair_59 : decode cX9_findPair 59 = .ok (.invokevirtual 95, 3) := by decide +kernel
theorem dX9_findPair_62 : decode cX9_findPair 62 = .ok (.iinc 2 1, 3) := by decide +kernel
theorem dX9_findPair_65 : decode cX9_findPair 65 = .ok (.goto (-40), 3) := by decide +kernel
theorem dX9_findPair_68 : decode cX9_findPair 68 = .ok (.return_, 1) := by decide +kernel
set_option maxRecDepth 20000 in
theorem ggX9_seekPairOf_X2_takeRight : GoodIn wsX9_seekPairOf wsX2_takeRight := goodIn_r _ [12, 13, 14, 15, 16, 11, 17, 18, 73, 74, 75, 76, 77, 78, 79, 80, 81, 82] (by decide +kernel) (by decide +kernel)
set_option maxRecDepth 20000 in
theorem gX9_seekPairOf_X2_takeRight : GoodIn wsX9_seekPairOf (wsV RX9 75 RX2 yX2_takeRight wsX2_takeRight) := goodIn_app (goodIn_of _ (by decide +kernel)) ggX9_seekPairOf_X2_takeRight
set_option maxRecDepth 20000 in
theorem ggX9_seekPairOf_X2_isLess : GoodIn wsX9_seekPairOf wsX2_isLess := goodIn_r _ [22, 23, 24, 25, 26, 11, 27, 18, 28, 13, 29, 30, 31, 32, 33, 34, 35, 36, 37, 38, 39, 40, 41, 42, 43, 44, 45, 46, 47, 48, 49, 50, 51, 52, 53, 54, 55, 56, 57, 58, 59, 60, 73, 74, 75, 76, 77, 78, 79, 80, 81, 82] (by decide +kernel) (by decide +kernel)
set_option maxRecDepth 20000 in
theorem gX9_seekPairOf_X2_isLess : GoodIn wsX9_seekPairOf (wsV RX9 78 RX2 yX2_isLess wsX2_isLess) := goodIn_app (goodIn_of _ (by decide +kernel)) ggX9_seekPairOf_X2_isLess
set_option maxRecDepth 20000 in
theorem ggX9_seekPairOf_X2_laidDistance : GoodIn wsX9_seekPairOf wsX2_laidDistance := goodIn_r _ [60, 52, 18, 73, 74, 75, 76, 77, 78, 79, 80, 81, 82] (by decide +kernel) (by decide +kernel)
set_option maxRecDepth 20000 in
theorem gX9_seekPairOf_X2_laidDistance : GoodIn wsX9_seekPairOf (wsV RX9 82 RX2 yX2_laidDistance wsX2_laidDistance) := goodIn_app (goodIn_of _ (by decide +kernel)) ggX9_seekPairOf_X2_laidDistance
theorem dX9_seekPairOf_0 : decode cX9_seekPairOf 0 = .ok (.iload_n 1, 1) := by decide +kernel
theorem dX9_seekPairOf_1 : decode cX9_seekPairOf 1 = .ok (.iload_n 2, 1) := by decide +kernel
theorem dX9_seekPairOf_2 : decode cX9_seekPairOf 2 = .ok (.iadd, 1) := by decide +kernel
theorem dX9_seekPairOf_3 : decode cX9_seekPairOf 3 = .ok (.istore_n 3, 1) := by decide +kernel
theorem dX9_seekPairOf_4 : decode cX9_seekPairOf 4 = .ok (.iload_n 3, 1) := by decide +kernel
theorem dX9_seekPairOf_5 : decode cX9_seekPairOf 5 = .ok (.sipush 160, 3) := by decide +kernel
theorem dX9_seekPairOf_8 : decode cX9_seekPairOf 8 = .ok (.if_icmp .ge 83, 3) := by decide +kernel
theorem dX9_seekPairOf_11 : decode cX9_seekPairOf 11 = .ok (.aload_n 0, 1) := by decide +kernel
theorem dX9_seekPairOf_12 : decode cX9_seekPairOf 12 = .ok (.getfield 15, 3) := by decide +kernel
theorem dX9_seekPairOf_15 : decode cX9_seekPairOf 15 = .ok (.iload_n 3, 1) := by decide +kernel
theorem dX9_seekPairOf_16 : decode cX9_seekPairOf 16 = .ok (.baload, 1) := by decide +kernel
theorem dX9_seekPairOf_17 : decode cX9_seekPairOf 17 = .ok (.ifCond .ne 6, 3) := by decide +kernel
theorem dX9_seekPairOf_20 : decode cX9_seekPairOf 20 = .ok (.goto 65, 3) := by decide +kernel
theorem dX9_seekPairOf_23 : decode cX9_seekPairOf 23 = .ok (.aload_n 0, 1) := by decide +kernel
theorem dX9_seekPairOf_24 : decode cX9_seekPairOf 24 = .ok (.getfield 29, 3) := by decide +kernel
theorem dX9_seekPairOf_27 : decode cX9_seekPairOf 27 = .ok (.aload_n 0, 1) := by decide +kernel
theorem dX9_seekPairOf_28 : decode cX9_seekPairOf 28 = .ok (.getfield 9, 3) := by decide +kernel
theorem dX9_seekPairOf_31 : decode cX9_seekPairOf 31 = .ok (.iload_n 3, 1) := by decide +kernel
theorem dX9_seekPairOf_32 : decode cX9_seekPairOf 32 = .ok (.bipush 16, 2) := by decide +kernel
theorem dX9_seekPairOf_34 : decode cX9_seekPairOf 34 = .ok (.imul, 1) := by decide +kernel
theorem dX9_seekPairOf_35 : decode cX9_seekPairOf 35 = .ok (.invokevirtual 75, 3) := by decide +kernel
theorem dX9_seekPairOf_38 : decode cX9_seekPairOf 38 = .ok (.aload_n 0, 1) := by decide +kernel
theorem dX9_seekPairOf_39 : decode cX9_seekPairOf 39 = .ok (.getfield 29, 3) := by decide +kernel
theorem dX9_seekPairOf_42 : decode cX9_seekPairOf 42 = .ok (.aload_n 0, 1) := by decide +kernel
theorem dX9_seekPairOf_43 : decode cX9_seekPairOf 43 = .ok (.getfield 92, 3) := by decide +kernel
theorem dX9_seekPairOf_46 : decode cX9_seekPairOf 46 = .ok (.ifCond .ge 8, 3) := by decide +kernel
theorem dX9_seekPairOf_49 : decode cX9_seekPairOf 49 = .ok (.ldc 65, 2) := by decide +kernel
theorem dX9_seekPairOf_51 : decode cX9_seekPairOf 51 = .ok (.goto 7, 3) := by decide +kernel
theorem dX9_seekPairOf_54 : decode cX9_seekPairOf 54 = .ok (.aload_n 0, 1) := by decide +kernel
theorem dX9_seekPairOf_55 : decode cX9_seekPairOf 55 = .ok (.getfield 92, 3) := by decide +kernel
theorem dX9_seekPairOf_58 : decode cX9_seekPairOf 58 = .ok (.invokevirtual 78, 3) := by decide +kernel
theorem dX9_seekPairOf_61 : decode cX9_seekPairOf 61 = .ok (.ifCond .eq 24, 3) := by decide +kernel
theorem dX9_seekPairOf_64 : decode cX9_seekPairOf 64 = .ok (.aload_n 0, 1) := by decide +kernel
theorem dX9_seekPairOf_65 : decode cX9_seekPairOf 65 = .ok (.iload_n 1, 1) := by decide +kernel
theorem dX9_seekPairOf_66 : decode cX9_seekPairOf 66 = .ok (.putfield 86, 3) := by decide +kernel
theorem dX9_seekPairOf_69 : decode cX9_seekPairOf 69 = .ok (.aload_n 0, 1) := by decide +kernel
theorem dX9_seekPairOf_70 : decode cX9_seekPairOf 70 = .ok (.iload_n 3, 1) := by decide +kernel
theorem dX9_seekPairOf_71 : decode cX9_seekPairOf 71 = .ok (.putfield 89, 3) := by decide +kernel
theorem dX9_seekPairOf_74 : decode cX9_seekPairOf 74 = .ok (.aload_n 0, 1) := by decide +kernel
theorem dX9_seekPairOf_75 : decode cX9_seekPairOf 75 = .ok (.aload_n 0, 1) := by decide +kernel
theorem dX9_seekPairOf_76 : decode cX9_seekPairOf 76 = .ok (.getfield 29, 3) := by decide +kernel
theorem dX9_seekPairOf_79 : decode cX9_seekPairOf 79 = .ok (.invokevirtual 82, 3) := by decide +kernel
theorem dX9_seekPairOf_82 : decode cX9_seekPairOf 82 = .ok (.putfield 92, 3) := by decide +kernel
theorem dX9_seekPairOf_85 : decode cX9_seekPairOf 85 = .ok (.iinc 3 1, 3) := by decide +kernel
theorem dX9_seekPairOf_88 : decode cX9_seekPairOf 88 = .ok (.goto (-84), 3) := by decide +kernel
theorem dX9_seekPairOf_91 : decode cX9_seekPairOf 91 = .ok (.return_, 1) := by decide +kernel
set_option maxRecDepth 20000 in
theorem ggX9_findOdd_X9_bringAll : GoodIn wsX9_findOdd wsX9_bringAll := goodIn_r _ [10, 3, 11, 12, 13, 14, 15, 16, 17, 18, 19, 20, 21, 22, 23, 24, 25, 26, 27, 28, 29, 30, 31, 32, 33, 34, 35, 36, 37, 38, 39, 40, 41, 42, 43, 44, 45, 46, 47, 48, 49, 50, 51, 52, 53, 54, 55, 56, 57, 58, 59, 60, 61, 62, 63, 64, 65, 66, 67, 68, 69, 70, 71, 72, 73, 74, 75, 76, 77, 78, 79, 80, 81, 82, 83, 84, 85, 86, 87, 88, 89, 90, 91, 92, 93, 94, 95, 96, 97, 98, 149, 150, 151, 152, 153, 154, 155, 156, 157, 158, 159, 160, 161, 162, 163, 164, 165, 166, 167, 168, 169, 170, 171, 172, 173, 174, 175, 176, 177, 178] (by decide +kernel) (by decide +kernel)
set_option maxRecDepth 20000 in
theorem gX9_findOdd_X9_bringAll : GoodIn wsX9_findOdd (wsV RX9 50 RX9 yX9_bringAll wsX9_bringAll) := goodIn_app (goodIn_of _ (by decide +kernel)) ggX9_findOdd_X9_bringAll
set_option maxRecDepth 20000 in
theorem ggX9_findOdd_X9_findNearest : GoodIn wsX9_findOdd wsX9_findNearest := goodIn_r _ [102, 4, 5, 103, 13, 14, 3, 104, 105, 58, 106, 107, 108, 109, 54, 110, 94, 95, 96, 97, 98, 63, 111, 112, 113, 114, 115, 116, 117, 118, 119, 120, 121, 122, 123, 124, 125, 126, 127, 128, 65, 129, 130, 131, 132, 133, 134, 135, 136, 137, 64, 60, 61, 62, 56, 57, 59, 138, 139, 140, 141, 142, 143, 144, 145, 146, 147, 148, 149, 150, 151, 152, 153, 154, 155, 156, 157, 158, 159, 168, 169, 170, 171, 172, 173, 174, 175, 176, 177] (by decide +kernel) (by decide +kernel)
set_option maxRecDepth 20000 in
theorem gX9_findOdd_X9_findNearest : GoodIn wsX9_findOdd (wsV RX9 54 RX9 yX9_findNearest wsX9_findNearest) := goodIn_app (goodIn_of _ (by decide +kernel)) ggX9_findOdd_X9_findNearest
theorem dX9_findOdd_0 : decode cX9_findOdd 0 = .ok (.aload_n 0, 1) := by decide +kernel
theorem dX9_findOdd_1 : decode cX9_findOdd 1 = .ok (.bipush (-2), 2) := by decide +kernel
theorem dX9_findOdd_3 : decode cX9_findOdd 3 = .ok (.putfield 98, 3) := by decide +kernel
theorem dX9_findOdd_6 : decode cX9_findOdd 6 = .ok (.aload_n 0, 1) := by decide +kernel
theorem dX9_findOdd_7 : decode cX9_findOdd 7 = .ok (.bipush (-2), 2) := by decide +kernel
theorem dX9_findOdd_9 : decode cX9_findOdd 9 = .ok (.putfield 101, 3) := by decide +kernel
theorem dX9_findOdd_12 : decode cX9_findOdd 12 = .ok (.aload_n 0, 1) := by decide +kernel
theorem dX9_findOdd_13 : decode cX9_findOdd 13 = .ok (.iload_n 1, 1) := by decide +kernel
theorem dX9_findOdd_14 : decode cX9_findOdd 14 = .ok (.invokevirtual 50, 3) := by decide +kernel
theorem dX9_findOdd_17 : decode cX9_findOdd 17 = .ok (.iconst 0, 1) := by decide +kernel
theorem dX9_findOdd_18 : decode cX9_findOdd 18 = .ok (.istore_n 2, 1) := by decide +kernel
theorem dX9_findOdd_19 : decode cX9_findOdd 19 = .ok (.iload_n 2, 1) := by decide +kernel
theorem dX9_findOdd_20 : decode cX9_findOdd 20 = .ok (.sipush 160, 3) := by decide +kernel
theorem dX9_findOdd_23 : decode cX9_findOdd 23 = .ok (.if_icmp .ge 62, 3) := by decide +kernel
theorem dX9_findOdd_26 : decode cX9_findOdd 26 = .ok (.aload_n 0, 1) := by decide +kernel
theorem dX9_findOdd_27 : decode cX9_findOdd 27 = .ok (.getfield 15, 3) := by decide +kernel
theorem dX9_findOdd_30 : decode cX9_findOdd 30 = .ok (.iload_n 2, 1) := by decide +kernel
theorem dX9_findOdd_31 : decode cX9_findOdd 31 = .ok (.baload, 1) := by decide +kernel
theorem dX9_findOdd_32 : decode cX9_findOdd 32 = .ok (.ifCond .ne 6, 3) := by decide +kernel
theorem dX9_findOdd_35 : decode cX9_findOdd 35 = .ok (.goto 44, 3) := by decide +kernel
theorem dX9_findOdd_38 : decode cX9_findOdd 38 = .ok (.aload_n 0, 1) := by decide +kernel
theorem dX9_findOdd_39 : decode cX9_findOdd 39 = .ok (.iload_n 2, 1) := by decide +kernel
theorem dX9_findOdd_40 : decode cX9_findOdd 40 = .ok (.iload_n 1, 1) := by decide +kernel
theorem dX9_findOdd_41 : decode cX9_findOdd 41 = .ok (.aload_n 0, 1) := by decide +kernel
theorem dX9_findOdd_42 : decode cX9_findOdd 42 = .ok (.getfield 101, 3) := by decide +kernel
theorem dX9_findOdd_45 : decode cX9_findOdd 45 = .ok (.invokevirtual 54, 3) := by decide +kernel
theorem dX9_findOdd_48 : decode cX9_findOdd 48 = .ok (.aload_n 0, 1) := by decide +kernel
theorem dX9_findOdd_49 : decode cX9_findOdd 49 = .ok (.getfield 58, 3) := by decide +kernel
theorem dX9_findOdd_52 : decode cX9_findOdd 52 = .ok (.ifCond .lt 27, 3) := by decide +kernel
theorem dX9_findOdd_55 : decode cX9_findOdd 55 = .ok (.aload_n 0, 1) := by decide +kernel
theorem dX9_findOdd_56 : decode cX9_findOdd 56 = .ok (.getfield 62, 3) := by decide +kernel
theorem dX9_findOdd_59 : decode cX9_findOdd 59 = .ok (.aload_n 0, 1) := by decide +kernel
theorem dX9_findOdd_60 : decode cX9_findOdd 60 = .ok (.getfield 101, 3) := by decide +kernel
theorem dX9_findOdd_63 : decode cX9_findOdd 63 = .ok (.if_icmp .le 16, 3) := by decide +kernel
theorem dX9_findOdd_66 : decode cX9_findOdd 66 = .ok (.aload_n 0, 1) := by decide +kernel
theorem dX9_findOdd_67 : decode cX9_findOdd 67 = .ok (.iload_n 2, 1) := by decide +kernel
theorem dX9_findOdd_68 : decode cX9_findOdd 68 = .ok (.putfield 98, 3) := by decide +kernel
theorem dX9_findOdd_71 : decode cX9_findOdd 71 = .ok (.aload_n 0, 1) := by decide +kernel
theorem dX9_findOdd_72 : decode cX9_findOdd 72 = .ok (.aload_n 0, 1) := by decide +kernel
theorem dX9_findOdd_73 : decode cX9_findOdd 73 = .ok (.getfield 62, 3) := by decide +kernel
theorem dX9_findOdd_76 : decode cX9_findOdd 76 = .ok (.putfield 101, 3) := by decide +kernel
theorem dX9_findOdd_79 : decode cX9_findOdd 79 = .ok (.iinc 2 1, 3) := by decide +kernel
theorem dX9_findOdd_82 : decode cX9_findOdd 82 = .ok (.goto (-63), 3) := by decide +kernel
theorem dX9_findOdd_85 : decode cX9_findOdd 85 = .ok (.return_, 1) := by decide +kernel
theorem dX10_init_0 : decode cX10_init 0 = .ok (.aload_n 0, 1) := by decide +kernel
theorem dX10_init_1 : decode cX10_init 1 = .ok (.invokespecial 3, 3) := by decide +kernel
theorem dX10_init_4 : decode cX10_init 4 = .ok (.aload_n 0, 1) := by decide +kernel
theorem dX10_init_5 : decode cX10_init 5 = .ok (.sipush 2000, 3) := by decide +kernel
theorem dX10_init_8 : decode cX10_init 8 = .ok (.newarray .int, 2) := by decide +kernel
theorem dX10_init_10 : decode cX10_init 10 = .ok (.putfield 9, 3) := by decide +kernel
theorem dX10_init_13 : decode cX10_init 13 = .ok (.return_, 1) := by decide +kernel
theorem dX10_addFour_0 : decode cX10_addFour 0 = .ok (.bipush 24, 2) := by decide +kernel
theorem dX10_addFour_2 : decode cX10_addFour 2 = .ok (.istore_n 2, 1) := by decide +kernel
theorem dX10_addFour_3 : decode cX10_addFour 3 = .ok (.iload_n 2, 1) := by decide +kernel
theorem dX10_addFour_4 : decode cX10_addFour 4 = .ok (.ifCond .lt 54, 3) := by decide +kernel
theorem dX10_addFour_7 : decode cX10_addFour 7 = .ok (.aload_n 0, 1) := by decide +kernel
theorem dX10_addFour_8 : decode cX10_addFour 8 = .ok (.getfield 15, 3) := by decide +kernel
theorem dX10_addFour_11 : decode cX10_addFour 11 = .ok (.ifCond .lt 41, 3) := by decide +kernel
theorem dX10_addFour_14 : decode cX10_addFour 14 = .ok (.aload_n 0, 1) := by decide +kernel
theorem dX10_addFour_15 : decode cX10_addFour 15 = .ok (.getfield 15, 3) := by decide +kernel
theorem dX10_addFour_18 : decode cX10_addFour 18 = .ok (.aload_n 0, 1) := by decide +kernel
theorem dX10_addFour_19 : decode cX10_addFour 19 = .ok (.getfield 9, 3) := by decide +kernel
theorem dX10_addFour_22 : decode cX10_addFour 22 = .ok (.arraylength, 1) := by decide +kernel
theorem dX10_addFour_23 : decode cX10_addFour 23 = .ok (.if_icmp .ge 29, 3) := by decide +kernel
theorem dX10_addFour_26 : decode cX10_addFour 26 = .ok (.aload_n 0, 1) := by decide +kernel
theorem dX10_addFour_27 : decode cX10_addFour 27 = .ok (.getfield 9, 3) := by decide +kernel
theorem dX10_addFour_30 : decode cX10_addFour 30 = .ok (.aload_n 0, 1) := by decide +kernel
theorem dX10_addFour_31 : decode cX10_addFour 31 = .ok (.getfield 15, 3) := by decide +kernel
theorem dX10_addFour_34 : decode cX10_addFour 34 = .ok (.iload_n 1, 1) := by decide +kernel
theorem dX10_addFour_35 : decode cX10_addFour 35 = .ok (.iload_n 2, 1) := by decide +kernel
theorem dX10_addFour_36 : decode cX10_addFour 36 = .ok (.iushr, 1) := by decide +kernel
theorem dX10_addFour_37 : decode cX10_addFour 37 = .ok (.sipush 255, 3) := by decide +kernel
theorem dX10_addFour_40 : decode cX10_addFour 40 = .ok (.iand, 1) := by decide +kernel
theorem dX10_addFour_41 : decode cX10_addFour 41 = .ok (.iastore, 1) := by decide +kernel
theorem dX10_addFour_42 : decode cX10_addFour 42 = .ok (.aload_n 0, 1) := by decide +kernel
theorem dX10_addFour_43 : decode cX10_addFour 43 = .ok (.dup, 1) := by decide +kernel
theorem dX10_addFour_44 : decode cX10_addFour 44 = .ok (.getfield 15, 3) := by decide +kernel
theorem dX10_addFour_47 : decode cX10_addFour 47 = .ok (.iconst 1, 1) := by decide +kernel
theorem dX10_addFour_48 : decode cX10_addFour 48 = .ok (.iadd, 1) := by decide +kernel
theorem dX10_addFour_49 : decode cX10_addFour 49 = .ok (.putfield 15, 3) := by decide +kernel
theorem dX10_addFour_52 : decode cX10_addFour 52 = .ok (.iinc 2 (-8), 3) := by decide +kernel
theorem dX10_addFour_55 : decode cX10_addFour 55 = .ok (.goto (-52), 3) := by decide +kernel
theorem dX10_addFour_58 : decode cX10_addFour 58 = .ok (.return_, 1) := by decide +kernel
theorem dX10_byteAt_0 : decode cX10_byteAt 0 = .ok (.iload_n 1, 1) := by decide +kernel
theorem dX10_byteAt_1 : decode cX10_byteAt 1 = .ok (.ifCond .lt 29, 3) := by decide +kernel
theorem dX10_byteAt_4 : decode cX10_byteAt 4 = .ok (.iload_n 1, 1) := by decide +kernel
theorem dX10_byteAt_5 : decode cX10_byteAt 5 = .ok (.aload_n 0, 1) := by decide +kernel
theorem dX10_byteAt_6 : decode cX10_byteAt 6 = .ok (.getfield 15, 3) := by decide +kernel
theorem dX10_byteAt_9 : decode cX10_byteAt 9 = .ok (.if_icmp .ge 21, 3) := by decide +kernel
theorem dX10_byteAt_12 : decode cX10_byteAt 12 = .ok (.iload_n 1, 1) := by decide +kernel
theorem dX10_byteAt_13 : decode cX10_byteAt 13 = .ok (.aload_n 0, 1) := by decide +kernel
theorem dX10_byteAt_14 : decode cX10_byteAt 14 = .ok (.getfield 9, 3) := by decide +kernel
theorem dX10_byteAt_17 : decode cX10_byteAt 17 = .ok (.arraylength, 1) := by decide +kernel
theorem dX10_byteAt_18 : decode cX10_byteAt 18 = .ok (.if_icmp .ge 12, 3) := by decide +kernel
theorem dX10_byteAt_21 : decode cX10_byteAt 21 = .ok (.aload_n 0, 1) := by decide +kernel
theorem dX10_byteAt_22 : decode cX10_byteAt 22 = .ok (.getfield 9, 3) := by decide +kernel
theorem dX10_byteAt_25 : decode cX10_byteAt 25 = .ok (.iload_n 1, 1) := by decide +kernel
theorem dX10_byteAt_26 : decode cX10_byteAt 26 = .ok (.iaload, 1) := by decide +kernel
theorem dX10_byteAt_27 : decode cX10_byteAt 27 = .ok (.goto 4, 3) := by decide +kernel
theorem dX10_byteAt_30 : decode cX10_byteAt 30 = .ok (.iconst (-1), 1) := by decide +kernel
theorem dX10_byteAt_31 : decode cX10_byteAt 31 = .ok (.ireturn, 1) := by decide +kernel
set_option maxRecDepth 20000 in
theorem ggX10_toFirstToken_X10_toNextToken : GoodIn wsX10_toFirstToken wsX10_toNextToken := goodIn_r _ [7, 1, 8, 2, 9, 10, 11, 12, 13, 6, 14, 15, 16, 17, 18, 19, 20, 21, 22, 23, 24, 25, 26, 27, 28, 29, 30, 31, 32, 33, 34, 35, 36, 37, 38, 39, 40, 41] (by decide +kernel) (by decide +kernel)
set_option maxRecDepth 20000 in
theorem gX10_toFirstToken_X10_toNextToken : GoodIn wsX10_toFirstToken (wsV RX10 25 RX10 yX10_toNextToken wsX10_toNextToken) := goodIn_app (goodIn_of _ (by decide +kernel)) ggX10_toFirstToken_X10_toNextToken
theorem dX10_toFirstToken_0 : decode cX10_toFirstToken 0 = .ok (.aload_n 0, 1) := by decide +kernel
theorem dX10_toFirstToken_1 : decode cX10_toFirstToken 1 = .ok (.iconst 0, 1) := by decide +kernel
theorem dX10_toFirstToken_2 : decode cX10_toFirstToken 2 = .ok (.putfield 19, 3) := by decide +kernel
theorem dX10_toFirstToken_5 : decode cX10_toFirstToken 5 = .ok (.aload_n 0, 1) := by decide +kernel
theorem dX10_toFirstToken_6 : decode cX10_toFirstToken 6 = .ok (.iconst 0, 1) := by decide +kernel
theorem dX10_toFirstToken_7 : decode cX10_toFirstToken 7 = .ok (.putfield 22, 3) := by decide +kernel
theorem dX10_toFirstToken_10 : decode cX10_toFirstToken 10 = .ok (.aload_n 0, 1) := by decide +kernel
theorem dX10_toFirstToken_11 : decode cX10_toFirstToken 11 = .ok (.invokevirtual 25, 3) := by decide +kernel
theorem dX10_toFirstToken_14 : decode cX10_toFirstToken 14 = .ok (.return_, 1) := by decide +kernel
set_option maxRecDepth 20000 in
theorem ggX10_toNextToken_X10_behindBlanks : GoodIn wsX10_toNextToken wsX10_behindBlanks := goodIn_r _ [10, 11, 12, 13, 14, 9, 15, 16, 31, 32, 33, 34, 35, 36, 37] (by decide +kernel) (by decide +kernel)
set_option maxRecDepth 20000 in
theorem gX10_toNextToken_X10_behindBlanks : GoodIn wsX10_toNextToken (wsV RX10 28 RX10 yX10_behindBlanks wsX10_behindBlanks) := goodIn_app (goodIn_of _ (by decide +kernel)) ggX10_toNextToken_X10_behindBlanks
set_option maxRecDepth 20000 in
theorem ggX10_toNextToken_X10_byteAt : GoodIn wsX10_toNextToken wsX10_byteAt := goodIn_r _ [15, 11, 16, 31, 32, 33, 34, 35, 36, 37] (by decide +kernel) (by decide +kernel)
set_option maxRecDepth 20000 in
theorem gX10_toNextToken_X10_byteAt : GoodIn wsX10_toNextToken (wsV RX10 38 RX10 yX10_byteAt wsX10_byteAt) := goodIn_app (goodIn_of _ (by decide +kernel)) ggX10_toNextToken_X10_byteAt
set_option maxRecDepth 20000 in
theorem ggX10_toNextToken_X10_isLetter : GoodIn wsX10_toNextToken wsX10_isLetter := goodIn_r _ [19] (by decide +kernel) (by decide +kernel)
set_option maxRecDepth 20000 in
theorem gX10_toNextToken_X10_isLetter : GoodIn wsX10_toNextToken (va_wsS RX10 44 yX10_isLetter wsX10_isLetter) := goodIn_app (goodIn_of _ (by decide +kernel)) ggX10_toNextToken_X10_isLetter
set_option maxRecDepth 20000 in
theorem ggX10_toNextToken_X10_takeLetters : GoodIn wsX10_toNextToken wsX10_takeLetters := goodIn_r _ [23, 2, 11, 1, 5, 12, 13, 14, 9, 15, 16, 17, 18, 19, 31, 32, 33, 34, 35, 36, 37] (by decide +kernel) (by decide +kernel)
set_option maxRecDepth 20000 in
theorem gX10_toNextToken_X10_takeLetters : GoodIn wsX10_toNextToken (wsV RX10 48 RX10 yX10_takeLetters wsX10_takeLetters) := goodIn_app (goodIn_of _ (by decide +kernel)) ggX10_toNextToken_X10_takeLetters
set_option maxRecDepth 20000 in
theorem ggX10_toNextToken_X10_isDigit : GoodIn wsX10_toNextToken wsX10_isDigit := goodIn_r _ [26] (by decide +kernel) (by decide +kernel)
set_option maxRecDepth 20000 in
theorem gX10_toNextToken_X10_isDigit : GoodIn wsX10_toNextToken (va_wsS RX10 51 yX10_isDigit wsX10_isDigit) := goodIn_app (goodIn_of _ (by decide +kernel)) ggX10_toNextToken_X10_isDigit
set_option maxRecDepth 20000 in
theorem ggX10_toNextToken_X10_takeDigits : GoodIn wsX10_toNextToken wsX10_takeDigits := goodIn_r _ [30, 2, 11, 4, 1, 5, 12, 13, 14, 9, 15, 16, 24, 25, 26, 31, 32, 33, 34, 35, 36, 37] (by decide +kernel) (by decide +kernel)
set_option maxRecDepth 20000 in
theorem gX10_toNextToken_X10_takeDigits : GoodIn wsX10_toNextToken (wsV RX10 54 RX10 yX10_takeDigits wsX10_takeDigits) := goodIn_app (goodIn_of _ (by decide +kernel)) ggX10_toNextToken_X10_takeDigits
theorem dX10_toNextToken_0 : decode cX10_toNextToken 0 = .ok (.aload_n 0, 1) := by decide +kernel
theorem dX10_toNextToken_1 : decode cX10_toNextToken 1 = .ok (.aload_n 0, 1) := by decide +kernel
theorem dX10_toNextToken_2 : decode cX10_toNextToken 2 = .ok (.aload_n 0, 1) := by decide +kernel
theorem dX10_toNextToken_3 : decode cX10_toNextToken 3 = .ok (.getfield 19, 3) := by decide +kernel
theorem dX10_toNextToken_6 : decode cX10_toNextToken 6 = .ok (.invokevirtual 28, 3) := by decide +kernel
theorem dX10_toNextToken_9 : decode cX10_toNextToken 9 = .ok (.putfield 32, 3) := by decide +kernel
theorem dX10_toNextToken_12 : decode cX10_toNextToken 12 = .ok (.aload_n 0, 1) := by decide +kernel
theorem dX10_toNextToken_13 : decode cX10_toNextToken 13 = .ok (.dup, 1) := by decide +kernel
theorem dX10_toNextToken_14 : decode cX10_toNextToken 14 = .ok (.getfield 22, 3) := by decide +kernel
theorem dX10_toNextToken_17 : decode cX10_toNextToken 17 = .ok (.iconst 1, 1) := by decide +kernel
theorem dX10_toNextToken_18 : decode cX10_toNextToken 18 = .ok (.iadd, 1) := by decide +kernel
theorem dX10_toNextToken_19 : decode cX10_toNextToken 19 = .ok (.putfield 22, 3) := by decide +kernel
theorem dX10_toNextToken_22 : decode cX10_toNextToken 22 = .ok (.aload_n 0, 1) := by decide +kernel
theorem dX10_toNextToken_23 : decode cX10_toNextToken 23 = .ok (.iconst 0, 1) := by decide +kernel
theorem dX10_toNextToken_24 : decode cX10_toNextToken 24 = .ok (.putfield 35, 3) := by decide +kernel
theorem dX10_toNextToken_27 : decode cX10_toNextToken 27 = .ok (.aload_n 0, 1) := by decide +kernel
theorem dX10_toNextToken_28 : decode cX10_toNextToken 28 = .ok (.aload_n 0, 1) := by decide +kernel
theorem dX10_toNextToken_29 : decode cX10_toNextToken 29 = .ok (.getfield 32, 3) := by decide +kernel
theorem dX10_toNextToken_32 : decode cX10_toNextToken 32 = .ok (.invokevirtual 38, 3) := by decide +kernel
theorem dX10_toNextToken_35 : decode cX10_toNextToken 35 = .ok (.istore_n 1, 1) := by decide +kernel
theorem dX10_toNextToken_36 : decode cX10_toNextToken 36 = .ok (.iload_n 1, 1) := by decide +kernel
theorem dX10_toNextToken_37 : decode cX10_toNextToken 37 = .ok (.ifCond .ge 19, 3) := by decide +kernel
theorem dX10_toNextToken_40 : decode cX10_toNextToken 40 = .ok (.aload_n 0, 1) := by decide +kernel
theorem dX10_toNextToken_41 : decode cX10_toNextToken 41 = .ok (.iconst 0, 1) := by decide +kernel
theorem dX10_toNextToken_42 : decode cX10_toNextToken 42 = .ok (.putfield 41, 3) := by decide +kernel
theorem dX10_toNextToken_45 : decode cX10_toNextToken 45 = .ok (.aload_n 0, 1) := by decide +kernel
theorem dX10_toNextToken_46 : decode cX10_toNextToken 46 = .ok (.aload_n 0, 1) := by decide +kernel
theorem dX10_toNextToken_47 : decode cX10_toNextToken 47 = .ok (.getfield 32, 3) := by decide +kernel
theorem dX10_toNextToken_50 : decode cX10_toNextToken 50 = .ok (.putfield 19, 3) := by decide +kernel
theorem dX10_toNextToken_53 : decode cX10_toNextToken 53 = .ok (.goto 66, 3) := by decide +kernel
theorem dX10_toNextToken_56 : decode cX10_toNextToken 56 = .ok (.iload_n 1, 1) := by decide +kernel
theorem dX10_toNextToken_57 : decode cX10_toNextToken 57 = .ok (.invokestatic 44, 3) := by decide +kernel
theorem dX10_toNextToken_60 : decode cX10_toNextToken 60 = .ok (.ifCond .eq 10, 3) := by decide +kernel
theorem dX10_toNextToken_63 : decode cX10_toNextToken 63 = .ok (.aload_n 0, 1) := by decide +kernel
theorem dX10_toNextToken_64 : decode cX10_toNextToken 64 = .ok (.invokevirtual 48, 3) := by decide +kernel
theorem dX10_toNextToken_67 : decode cX10_toNextToken 67 = .ok (.goto 52, 3) := by decide +kernel
theorem dX10_toNextToken_70 : decode cX10_toNextToken 70 = .ok (.iload_n 1, 1) := by decide +kernel
theorem dX10_toNextToken_71 : decode cX10_toNextToken 71 = .ok (.invokestatic 51, 3) := by decide +kernel
theorem dX10_toNextToken_74 : decode cX10_toNextToken 74 = .ok (.ifCond .eq 10, 3) := by decide +kernel
theorem dX10_toNextToken_77 : decode cX10_toNextToken 77 = .ok (.aload_n 0, 1) := by decide +kernel
theorem dX10_toNextToken_78 : decode cX10_toNextToken 78 = .ok (.invokevirtual 54, 3) := by decide +kernel
theorem dX10_toNextToken_81 : decode cX10_toNextToken 81 = .ok (.goto 38, 3) := by decide +kernel
theorem dX10_toNextToken_84 : decode cX10_toNextToken 84 = .ok (.aload_n 0, 1) := by decide +kernel
theorem dX10_toNextToken_85 : decode cX10_toNextToken 85 = .ok (.aload_n 0, 1) := by decide +kernel
theorem dX10_toNextToken_86 : decode cX10_toNextToken 86 = .ok (.getfield 32, 3) := by decide +kernel
theorem dX10_toNextToken_89 : decode cX10_toNextToken 89 = .ok (.iconst 1, 1) := by decide +kernel
theorem dX10_toNextToken_90 : decode cX10_toNextToken 90 = .ok (.iadd, 1) := by decide +kernel
theorem dX10_toNextToken_91 : decode cX10_toNextToken 91 = .ok (.putfield 19, 3) := by decide +kernel
theorem dX10_toNextToken_94 : decode cX10_toNextToken 94 = .ok (.aload_n 0, 1) := by decide +kernel
theorem dX10_toNextToken_95 : decode cX10_toNextToken 95 = .ok (.iload_n 1, 1) := by decide +kernel
theorem dX10_toNextToken_96 : decode cX10_toNextToken 96 = .ok (.bipush 59, 2) := by decide +kernel
theorem dX10_toNextToken_98 : decode cX10_toNextToken 98 = .ok (.if_icmp .ne 7, 3) := by decide +kernel
theorem dX10_toNextToken_101 : decode cX10_toNextToken 101 = .ok (.iconst 3, 1) := by decide +kernel
theorem dX10_toNextToken_102 : decode cX10_toNextToken 102 = .ok (.goto 14, 3) := by decide +kernel
theorem dX10_toNextToken_105 : decode cX10_toNextToken 105 = .ok (.iload_n 1, 1) := by decide +kernel
theorem dX10_toNextToken_106 : decode cX10_toNextToken 106 = .ok (.bipush 45, 2) := by decide +kernel
theorem dX10_toNextToken_108 : decode cX10_toNextToken 108 = .ok (.if_icmp .ne 7, 3) := by decide +kernel
theorem dX10_toNextToken_111 : decode cX10_toNextToken 111 = .ok (.iconst 4, 1) := by decide +kernel
theorem dX10_toNextToken_112 : decode cX10_toNextToken 112 = .ok (.goto 4, 3) := by decide +kernel
theorem dX10_toNextToken_115 : decode cX10_toNextToken 115 = .ok (.iconst 5, 1) := by decide +kernel
theorem dX10_toNextToken_116 : decode cX10_toNextToken 116 = .ok (.putfield 41, 3) := by decide +kernel
theorem dX10_toNextToken_119 : decode cX10_toNextToken 119 = .ok (.return_, 1) := by decide +kernel
set_option maxRecDepth 20000 in
theorem ggX10_behindBlanks_X10_byteAt : GoodIn wsX10_behindBlanks wsX10_byteAt := goodIn_r _ [6, 1, 7, 8, 9, 10, 11, 12, 13, 14] (by decide +kernel) (by decide +kernel)
set_option maxRecDepth 20000 in
theorem gX10_behindBlanks_X10_byteAt : GoodIn wsX10_behindBlanks (wsV RX10 38 RX10 yX10_byteAt wsX10_byteAt) := goodIn_app (goodIn_of _ (by decide +kernel)) ggX10_behindBlanks_X10_byteAt
theorem dX10_behindBlanks_0 : decode cX10_behindBlanks 0 = .ok (.iload_n 1, 1) := by decide +kernel
theorem dX10_behindBlanks_1 : decode cX10_behindBlanks 1 = .ok (.istore_n 2, 1) := by decide +kernel
theorem dX10_behindBlanks_2 : decode cX10_behindBlanks 2 = .ok (.iload_n 2, 1) := by decide +kernel
theorem dX10_behindBlanks_3 : decode cX10_behindBlanks 3 = .ok (.aload_n 0, 1) := by decide +kernel
theorem dX10_behindBlanks_4 : decode cX10_behindBlanks 4 = .ok (.getfield 15, 3) := by decide +kernel
theorem dX10_behindBlanks_7 : decode cX10_behindBlanks 7 = .ok (.if_icmp .ge 41, 3) := by decide +kernel
theorem dX10_behindBlanks_10 : decode cX10_behindBlanks 10 = .ok (.aload_n 0, 1) := by decide +kernel
theorem dX10_behindBlanks_11 : decode cX10_behindBlanks 11 = .ok (.iload_n 2, 1) := by decide +kernel
theorem dX10_behindBlanks_12 : decode cX10_behindBlanks 12 = .ok (.invokevirtual 38, 3) := by decide +kernel
theorem dX10_behindBlanks_15 : decode cX10_behindBlanks 15 = .ok (.istore_n 3, 1) := by decide +kernel
theorem dX10_behindBlanks_16 : decode cX10_behindBlanks 16 = .ok (.iload_n 3, 1) := by decide +kernel
theorem dX10_behindBlanks_17 : decode cX10_behindBlanks 17 = .ok (.bipush 9, 2) := by decide +kernel
theorem dX10_behindBlanks_19 : decode cX10_behindBlanks 19 = .ok (.if_icmp .eq 23, 3) := by decide +kernel
theorem dX10_behindBlanks_22 : decode cX10_behindBlanks 22 = .ok (.iload_n 3, 1) := by decide +kernel
theorem dX10_behindBlanks_23 : decode cX10_behindBlanks 23 = .ok (.bipush 10, 2) := by decide +kernel
theorem dX10_behindBlanks_25 : decode cX10_behindBlanks 25 = .ok (.if_icmp .eq 17, 3) := by decide +kernel
theorem dX10_behindBlanks_28 : decode cX10_behindBlanks 28 = .ok (.iload_n 3, 1) := by decide +kernel
theorem dX10_behindBlanks_29 : decode cX10_behindBlanks 29 = .ok (.bipush 13, 2) := by decide +kernel
theorem dX10_behindBlanks_31 : decode cX10_behindBlanks 31 = .ok (.if_icmp .eq 11, 3) := by decide +kernel
theorem dX10_behindBlanks_34 : decode cX10_behindBlanks 34 = .ok (.iload_n 3, 1) := by decide +kernel
theorem dX10_behindBlanks_35 : decode cX10_behindBlanks 35 = .ok (.bipush 32, 2) := by decide +kernel
theorem dX10_behindBlanks_37 : decode cX10_behindBlanks 37 = .ok (.if_icmp .eq 5, 3) := by decide +kernel
theorem dX10_behindBlanks_40 : decode cX10_behindBlanks 40 = .ok (.iload_n 2, 1) := by decide +kernel
theorem dX10_behindBlanks_41 : decode cX10_behindBlanks 41 = .ok (.ireturn, 1) := by decide +kernel
theorem dX10_behindBlanks_42 : decode cX10_behindBlanks 42 = .ok (.iinc 2 1, 3) := by decide +kernel
theorem dX10_behindBlanks_45 : decode cX10_behindBlanks 45 = .ok (.goto (-43), 3) := by decide +kernel
theorem dX10_behindBlanks_48 : decode cX10_behindBlanks 48 = .ok (.aload_n 0, 1) := by decide +kernel
theorem dX10_behindBlanks_49 : decode cX10_behindBlanks 49 = .ok (.getfield 15, 3) := by decide +kernel
theorem dX10_behindBlanks_52 : decode cX10_behindBlanks 52 = .ok (.ireturn, 1) := by decide +kernel
theorem dX10_isLetter_0 : decode cX10_isLetter 0 = .ok (.iload_n 0, 1) := by decide +kernel
theorem dX10_isLetter_1 : decode cX10_isLetter 1 = .ok (.bipush 97, 2) := by decide +kernel
theorem dX10_isLetter_3 : decode cX10_isLetter 3 = .ok (.if_icmp .lt 13, 3) := by decide +kernel
theorem dX10_isLetter_6 : decode cX10_isLetter 6 = .ok (.iload_n 0, 1) := by decide +kernel
theorem dX10_isLetter_7 : decode cX10_isLetter 7 = .ok (.bipush 122, 2) := by decide +kernel
theorem dX10_isLetter_9 : decode cX10_isLetter 9 = .ok (.if_icmp .gt 7, 3) := by decide +kernel
theorem dX10_isLetter_12 : decode cX10_isLetter 12 = .ok (.iconst 1, 1) := by decide +kernel
theorem dX10_isLetter_13 : decode cX10_isLetter 13 = .ok (.goto 4, 3) := by decide +kernel
theorem dX10_isLetter_16 : decode cX10_isLetter 16 = .ok (.iconst 0, 1) := by decide +kernel
theorem dX10_isLetter_17 : decode cX10_isLetter 17 = .ok (.ireturn, 1) := by decide +kernel
theorem dX10_isDigit_0 : decode cX10_isDigit 0 = .ok (.iload_n 0, 1) := by decide +kernel
theorem dX10_isDigit_1 : decode cX10_isDigit 1 = .ok (.bipush 48, 2) := by decide +kernel
theorem dX10_isDigit_3 : decode cX10_isDigit 3 = .ok (.if_icmp .lt 13, 3) := by decide +kernel
theorem dX10_isDigit_6 : decode cX10_isDigit 6 = .ok (.iload_n 0, 1) := by decide +kernel
theorem dX10_isDigit_7 : decode cX10_isDigit 7 = .ok (.bipush 57, 2) := by decide +kernel
theorem dX10_isDigit_9 : decode cX10_isDigit 9 = .ok (.if_icmp .gt 7, 3) := by decide +kernel
theorem dX10_isDigit_12 : decode cX10_isDigit 12 = .ok (.iconst 1, 1) := by decide +kernel
theorem dX10_isDigit_13 : decode cX10_isDigit 13 = .ok (.goto 4, 3) := by decide +kernel
theorem dX10_isDigit_16 : decode cX10_isDigit 16 = .ok (.iconst 0, 1) := by decide +kernel
theorem dX10_isDigit_17 : decode cX10_isDigit 17 = .ok (.ireturn, 1) := by decide +kernel
set_option maxRecDepth 20000 in
theorem ggX10_takeLetters_X10_byteAt : GoodIn wsX10_takeLetters wsX10_byteAt := goodIn_r _ [9, 2, 10, 14, 15, 16, 17, 18, 19, 20] (by decide +kernel) (by decide +kernel)
set_option maxRecDepth 20000 in
theorem gX10_takeLetters_X10_byteAt : GoodIn wsX10_takeLetters (wsV RX10 38 RX10 yX10_byteAt wsX10_byteAt) := goodIn_app (goodIn_of _ (by decide +kernel)) ggX10_takeLetters_X10_byteAt
set_option maxRecDepth 20000 in
theorem ggX10_takeLetters_X10_isLetter : GoodIn wsX10_takeLetters wsX10_isLetter := goodIn_r _ [13] (by decide +kernel) (by decide +kernel)
set_option maxRecDepth 20000 in
theorem gX10_takeLetters_X10_isLetter : GoodIn wsX10_takeLetters (va_wsS RX10 44 yX10_isLetter wsX10_isLetter) := goodIn_app (goodIn_of _ (by decide +kernel)) ggX10_takeLetters_X10_isLetter
theorem dX10_takeLetters_0 : decode cX10_takeLetters 0 = .ok (.aload_n 0, 1) := by decide +kernel
theorem dX10_takeLetters_1 : decode cX10_takeLetters 1 = .ok (.getfield 32, 3) := by decide +kernel
theorem dX10_takeLetters_4 : decode cX10_takeLetters 4 = .ok (.istore_n 1, 1) := by decide +kernel
theorem dX10_takeLetters_5 : decode cX10_takeLetters 5 = .ok (.iload_n 1, 1) := by decide +kernel
theorem dX10_takeLetters_6 : decode cX10_takeLetters 6 = .ok (.aload_n 0, 1) := by decide +kernel
theorem dX10_takeLetters_7 : decode cX10_takeLetters 7 = .ok (.getfield 15, 3) := by decide +kernel
theorem dX10_takeLetters_10 : decode cX10_takeLetters 10 = .ok (.if_icmp .ge 20, 3) := by decide +kernel
theorem dX10_takeLetters_13 : decode cX10_takeLetters 13 = .ok (.aload_n 0, 1) := by decide +kernel
theorem dX10_takeLetters_14 : decode cX10_takeLetters 14 = .ok (.iload_n 1, 1) := by decide +kernel
theorem dX10_takeLetters_15 : decode cX10_takeLetters 15 = .ok (.invokevirtual 38, 3) := by decide +kernel
theorem dX10_takeLetters_18 : decode cX10_takeLetters 18 = .ok (.invokestatic 44, 3) := by decide +kernel
theorem dX10_takeLetters_21 : decode cX10_takeLetters 21 = .ok (.ifCond .eq 9, 3) := by decide +kernel
theorem dX10_takeLetters_24 : decode cX10_takeLetters 24 = .ok (.iinc 1 1, 3) := by decide +kernel
theorem dX10_takeLetters_27 : decode cX10_takeLetters 27 = .ok (.goto (-22), 3) := by decide +kernel
theorem dX10_takeLetters_30 : decode cX10_takeLetters 30 = .ok (.aload_n 0, 1) := by decide +kernel
theorem dX10_takeLetters_31 : decode cX10_takeLetters 31 = .ok (.iload_n 1, 1) := by decide +kernel
theorem dX10_takeLetters_32 : decode cX10_takeLetters 32 = .ok (.putfield 19, 3) := by decide +kernel
theorem dX10_takeLetters_35 : decode cX10_takeLetters 35 = .ok (.aload_n 0, 1) := by decide +kernel
theorem dX10_takeLetters_36 : decode cX10_takeLetters 36 = .ok (.aload_n 0, 1) := by decide +kernel
theorem dX10_takeLetters_37 : decode cX10_takeLetters 37 = .ok (.getfield 19, 3) := by decide +kernel
theorem dX10_takeLetters_40 : decode cX10_takeLetters 40 = .ok (.aload_n 0, 1) := by decide +kernel
theorem dX10_takeLetters_41 : decode cX10_takeLetters 41 = .ok (.getfield 32, 3) := by decide +kernel
theorem dX10_takeLetters_44 : decode cX10_takeLetters 44 = .ok (.isub, 1) := by decide +kernel
theorem dX10_takeLetters_45 : decode cX10_takeLetters 45 = .ok (.bipush 8, 2) := by decide +kernel
theorem dX10_takeLetters_47 : decode cX10_takeLetters 47 = .ok (.if_icmp .gt 7, 3) := by decide +kernel
theorem dX10_takeLetters_50 : decode cX10_takeLetters 50 = .ok (.iconst 1, 1) := by decide +kernel
theorem dX10_takeLetters_51 : decode cX10_takeLetters 51 = .ok (.goto 4, 3) := by decide +kernel
theorem dX10_takeLetters_54 : decode cX10_takeLetters 54 = .ok (.iconst 5, 1) := by decide +kernel
theorem dX10_takeLetters_55 : decode cX10_takeLetters 55 = .ok (.putfield 41, 3) := by decide +kernel
theorem dX10_takeLetters_58 : decode cX10_takeLetters 58 = .ok (.return_, 1) := by decide +kernel
set_option maxRecDepth 20000 in
theorem ggX10_takeDigits_X10_byteAt : GoodIn wsX10_takeDigits wsX10_byteAt := goodIn_r _ [10, 2, 11, 15, 16, 17, 18, 19, 20, 21] (by decide +kernel) (by decide +kernel)
set_option maxRecDepth 20000 in
theorem gX10_takeDigits_X10_byteAt : GoodIn wsX10_takeDigits (wsV RX10 38 RX10 yX10_byteAt wsX10_byteAt) := goodIn_app (goodIn_of _ (by decide +kernel)) ggX10_takeDigits_X10_byteAt
set_option maxRecDepth 20000 in
theorem ggX10_takeDigits_X10_isDigit : GoodIn wsX10_takeDigits wsX10_isDigit := goodIn_r _ [14] (by decide +kernel) (by decide +kernel)
set_option maxRecDepth 20000 in
theorem gX10_takeDigits_X10_isDigit : GoodIn wsX10_takeDigits (va_wsS RX10 51 yX10_isDigit wsX10_isDigit) := goodIn_app (goodIn_of _ (by decide +kernel)) ggX10_takeDigits_X10_isDigit
theorem dX10_takeDigits_0 : decode cX10_takeDigits 0 = .ok (.aload_n 0, 1) := by decide +kernel
theorem dX10_takeDigits_1 : decode cX10_takeDigits 1 = .ok (.getfield 32, 3) := by decide +kernel
theorem dX10_takeDigits_4 : decode cX10_takeDigits 4 = .ok (.istore_n 1, 1) := by decide +kernel
theorem dX10_takeDigits_5 : decode cX10_takeDigits 5 = .ok (.iload_n 1, 1) := by decide +kernel
theorem dX10_takeDigits_6 : decode cX10_takeDigits 6 = .ok (.aload_n 0, 1) := by decide +kernel
theorem dX10_takeDigits_7 : decode cX10_takeDigits 7 = .ok (.getfield 15, 3) := by decide +kernel
theorem dX10_takeDigits_10 : decode cX10_takeDigits 10 = .ok (.if_icmp .ge 40, 3) := by decide +kernel
theorem dX10_takeDigits_13 : decode cX10_takeDigits 13 = .ok (.aload_n 0, 1) := by decide +kernel
theorem dX10_takeDigits_14 : decode cX10_takeDigits 14 = .ok (.iload_n 1, 1) := by decide +kernel
theorem dX10_takeDigits_15 : decode cX10_takeDigits 15 = .ok (.invokevirtual 38, 3) := by decide +kernel
theorem dX10_takeDigits_18 : decode cX10_takeDigits 18 = .ok (.invokestatic 51, 3) := by decide +kernel
theorem dX10_takeDigits_21 : decode cX10_takeDigits 21 = .ok (.ifCond .eq 29, 3) := by decide +kernel
theorem dX10_takeDigits_24 : decode cX10_takeDigits 24 = .ok (.aload_n 0, 1) := by decide +kernel
theorem dX10_takeDigits_25 : decode cX10_takeDigits 25 = .ok (.aload_n 0, 1) := by decide +kernel
theorem dX10_takeDigits_26 : decode cX10_takeDigits 26 = .ok (.getfield 35, 3) := by decide +kernel
theorem dX10_takeDigits_29 : decode cX10_takeDigits 29 = .ok (.bipush 10, 2) := by decide +kernel
theorem dX10_takeDigits_31 : decode cX10_takeDigits 31 = .ok (.imul, 1) := by decide +kernel
theorem dX10_takeDigits_32 : decode cX10_takeDigits 32 = .ok (.aload_n 0, 1) := by decide +kernel
theorem dX10_takeDigits_33 : decode cX10_takeDigits 33 = .ok (.iload_n 1, 1) := by decide +kernel
theorem dX10_takeDigits_34 : decode cX10_takeDigits 34 = .ok (.invokevirtual 38, 3) := by decide +kernel
theorem dX10_takeDigits_37 : decode cX10_takeDigits 37 = .ok (.iadd, 1) := by decide +kernel
theorem dX10_takeDigits_38 : decode cX10_takeDigits 38 = .ok (.bipush 48, 2) := by decide +kernel
theorem dX10_takeDigits_40 : decode cX10_takeDigits 40 = .ok (.isub, 1) := by decide +kernel
theorem dX10_takeDigits_41 : decode cX10_takeDigits 41 = .ok (.putfield 35, 3) := by decide +kernel
theorem dX10_takeDigits_44 : decode cX10_takeDigits 44 = .ok (.iinc 1 1, 3) := by decide +kernel
theorem dX10_takeDigits_47 : decode cX10_takeDigits 47 = .ok (.goto (-42), 3) := by decide +kernel
theorem dX10_takeDigits_50 : decode cX10_takeDigits 50 = .ok (.aload_n 0, 1) := by decide +kernel
theorem dX10_takeDigits_51 : decode cX10_takeDigits 51 = .ok (.iload_n 1, 1) := by decide +kernel
theorem dX10_takeDigits_52 : decode cX10_takeDigits 52 = .ok (.putfield 19, 3) := by decide +kernel
theorem dX10_takeDigits_55 : decode cX10_takeDigits 55 = .ok (.aload_n 0, 1) := by decide +kernel
theorem dX10_takeDigits_56 : decode cX10_takeDigits 56 = .ok (.aload_n 0, 1) := by decide +kernel
theorem dX10_takeDigits_57 : decode cX10_takeDigits 57 = .ok (.getfield 19, 3) := by decide +kernel
theorem dX10_takeDigits_60 : decode cX10_takeDigits 60 = .ok (.aload_n 0, 1) := by decide +kernel
theorem dX10_takeDigits_61 : decode cX10_takeDigits 61 = .ok (.getfield 32, 3) := by decide +kernel
theorem dX10_takeDigits_64 : decode cX10_takeDigits 64 = .ok (.isub, 1) := by decide +kernel
theorem dX10_takeDigits_65 : decode cX10_takeDigits 65 = .ok (.iconst 4, 1) := by decide +kernel
theorem dX10_takeDigits_66 : decode cX10_takeDigits 66 = .ok (.if_icmp .gt 7, 3) := by decide +kernel
theorem dX10_takeDigits_69 : decode cX10_takeDigits 69 = .ok (.iconst 2, 1) := by decide +kernel
theorem dX10_takeDigits_70 : decode cX10_takeDigits 70 = .ok (.goto 4, 3) := by decide +kernel
theorem dX10_takeDigits_73 : decode cX10_takeDigits 73 = .ok (.iconst 5, 1) := by decide +kernel
theorem dX10_takeDigits_74 : decode cX10_takeDigits 74 = .ok (.putfield 41, 3) := by decide +kernel
theorem dX10_takeDigits_77 : decode cX10_takeDigits 77 = .ok (.return_, 1) := by decide +kernel
theorem dX10_lengthAtHand_0 : decode cX10_lengthAtHand 0 = .ok (.aload_n 0, 1) := by decide +kernel
theorem dX10_lengthAtHand_1 : decode cX10_lengthAtHand 1 = .ok (.getfield 19, 3) := by decide +kernel
theorem dX10_lengthAtHand_4 : decode cX10_lengthAtHand 4 = .ok (.aload_n 0, 1) := by decide +kernel
theorem dX10_lengthAtHand_5 : decode cX10_lengthAtHand 5 = .ok (.getfield 32, 3) := by decide +kernel
theorem dX10_lengthAtHand_8 : decode cX10_lengthAtHand 8 = .ok (.isub, 1) := by decide +kernel
theorem dX10_lengthAtHand_9 : decode cX10_lengthAtHand 9 = .ok (.ireturn, 1) := by decide +kernel
set_option maxRecDepth 20000 in
theorem ggX10_isWord_X10_lengthAtHand : GoodIn wsX10_isWord wsX10_lengthAtHand := goodIn_r _ [7, 8, 2, 64, 65, 66, 67, 68, 69, 70] (by decide +kernel) (by decide +kernel)
set_option maxRecDepth 20000 in
theorem gX10_isWord_X10_lengthAtHand : GoodIn wsX10_isWord (wsV RX10 57 RX10 yX10_lengthAtHand wsX10_lengthAtHand) := goodIn_app (goodIn_of _ (by decide +kernel)) ggX10_isWord_X10_lengthAtHand
set_option maxRecDepth 20000 in
theorem ggX10_isWord_J0_length_8abf5 : GoodIn wsX10_isWord wsJ0_length_8abf5 := goodIn_r _ [13, 14, 15, 16, 17, 12, 18, 19, 20] (by decide +kernel) (by decide +kernel)
set_option maxRecDepth 20000 in
theorem gX10_isWord_J0_length_8abf5 : GoodIn wsX10_isWord (wsV RX10 61 RJ0 yJ0_length_8abf5 wsJ0_length_8abf5) := goodIn_app (goodIn_of _ (by decide +kernel)) ggX10_isWord_J0_length_8abf5
set_option maxRecDepth 20000 in
theorem ggX10_isWord_X10_byteAt : GoodIn wsX10_isWord wsX10_byteAt := goodIn_r _ [24, 25, 26, 64, 65, 66, 67, 68, 69, 70] (by decide +kernel) (by decide +kernel)
set_option maxRecDepth 20000 in
theorem gX10_isWord_X10_byteAt : GoodIn wsX10_isWord (wsV RX10 38 RX10 yX10_byteAt wsX10_byteAt) := goodIn_app (goodIn_of _ (by decide +kernel)) ggX10_isWord_X10_byteAt
set_option maxRecDepth 20000 in
theorem ggX10_isWord_J0_charAt_5068e : GoodIn wsX10_isWord wsJ0_charAt_5068e := goodIn_r _ [30, 14, 31, 32, 33, 12, 34, 19, 20, 35, 36, 37, 38, 39, 40, 41, 42, 43, 44, 45, 46, 47, 48, 49, 50, 51, 52, 53, 54, 55, 56, 57, 58, 59, 60, 61, 62, 63] (by decide +kernel) (by decide +kernel)
set_option maxRecDepth 20000 in
theorem gX10_isWord_J0_charAt_5068e : GoodIn wsX10_isWord (wsV RX10 66 RJ0 yJ0_charAt_5068e wsJ0_charAt_5068e) := goodIn_app (goodIn_of _ (by decide +kernel)) ggX10_isWord_J0_charAt_5068e
theorem dX10_isWord_0 : decode cX10_isWord 0 = .ok (.aload_n 0, 1) := by decide +kernel
theorem dX10_isWord_1 : decode cX10_isWord 1 = .ok (.getfield 41, 3) := by decide +kernel
theorem dX10_isWord_4 : decode cX10_isWord 4 = .ok (.iconst 1, 1) := by decide +kernel
theorem dX10_isWord_5 : decode cX10_isWord 5 = .ok (.if_icmp .ne 14, 3) := by decide +kernel
theorem dX10_isWord_8 : decode cX10_isWord 8 = .ok (.aload_n 0, 1) := by decide +kernel
theorem dX10_isWord_9 : decode cX10_isWord 9 = .ok (.invokevirtual 57, 3) := by decide +kernel
theorem dX10_isWord_12 : decode cX10_isWord 12 = .ok (.aload_n 1, 1) := by decide +kernel
theorem dX10_isWord_13 : decode cX10_isWord 13 = .ok (.invokevirtual 61, 3) := by decide +kernel
theorem dX10_isWord_16 : decode cX10_isWord 16 = .ok (.if_icmp .eq 5, 3) := by decide +kernel
theorem dX10_isWord_19 : decode cX10_isWord 19 = .ok (.iconst 0, 1) := by decide +kernel
theorem dX10_isWord_20 : decode cX10_isWord 20 = .ok (.ireturn, 1) := by decide +kernel
theorem dX10_isWord_21 : decode cX10_isWord 21 = .ok (.iconst 0, 1) := by decide +kernel
theorem dX10_isWord_22 : decode cX10_isWord 22 = .ok (.istore_n 2, 1) := by decide +kernel
theorem dX10_isWord_23 : decode cX10_isWord 23 = .ok (.iload_n 2, 1) := by decide +kernel
theorem dX10_isWord_24 : decode cX10_isWord 24 = .ok (.aload_n 1, 1) := by decide +kernel
theorem dX10_isWord_25 : decode cX10_isWord 25 = .ok (.invokevirtual 61, 3) := by decide +kernel
theorem dX10_isWord_28 : decode cX10_isWord 28 = .ok (.if_icmp .ge 29, 3) := by decide +kernel
theorem dX10_isWord_31 : decode cX10_isWord 31 = .ok (.aload_n 0, 1) := by decide +kernel
theorem dX10_isWord_32 : decode cX10_isWord 32 = .ok (.aload_n 0, 1) := by decide +kernel
theorem dX10_isWord_33 : decode cX10_isWord 33 = .ok (.getfield 32, 3) := by decide +kernel
theorem dX10_isWord_36 : decode cX10_isWord 36 = .ok (.iload_n 2, 1) := by decide +kernel
theorem dX10_isWord_37 : decode cX10_isWord 37 = .ok (.iadd, 1) := by decide +kernel
theorem dX10_isWord_38 : decode cX10_isWord 38 = .ok (.invokevirtual 38, 3) := by decide +kernel
theorem dX10_isWord_41 : decode cX10_isWord 41 = .ok (.aload_n 1, 1) := by decide +kernel
theorem dX10_isWord_42 : decode cX10_isWord 42 = .ok (.iload_n 2, 1) := by decide +kernel
theorem dX10_isWord_43 : decode cX10_isWord 43 = .ok (.invokevirtual 66, 3) := by decide +kernel
theorem dX10_isWord_46 : decode cX10_isWord 46 = .ok (.if_icmp .eq 5, 3) := by decide +kernel
theorem dX10_isWord_49 : decode cX10_isWord 49 = .ok (.iconst 0, 1) := by decide +kernel
theorem dX10_isWord_50 : decode cX10_isWord 50 = .ok (.ireturn, 1) := by decide +kernel
theorem dX10_isWord_51 : decode cX10_isWord 51 = .ok (.iinc 2 1, 3) := by decide +kernel
theorem dX10_isWord_54 : decode cX10_isWord 54 = .ok (.goto (-31), 3) := by decide +kernel
theorem dX10_isWord_57 : decode cX10_isWord 57 = .ok (.iconst 1, 1) := by decide +kernel
theorem dX10_isWord_58 : decode cX10_isWord 58 = .ok (.ireturn, 1) := by decide +kernel
set_option maxRecDepth 20000 in
theorem ggX10_isSameAsAt_X10_lengthAtHand : GoodIn wsX10_isSameAsAt wsX10_lengthAtHand := goodIn_r _ [6, 7, 1, 14, 15, 16, 17, 18, 19, 20] (by decide +kernel) (by decide +kernel)
set_option maxRecDepth 20000 in
theorem gX10_isSameAsAt_X10_lengthAtHand : GoodIn wsX10_isSameAsAt (wsV RX10 57 RX10 yX10_lengthAtHand wsX10_lengthAtHand) := goodIn_app (goodIn_of _ (by decide +kernel)) ggX10_isSameAsAt_X10_lengthAtHand
set_option maxRecDepth 20000 in
theorem ggX10_isSameAsAt_X10_byteAt : GoodIn wsX10_isSameAsAt wsX10_byteAt := goodIn_r _ [11, 12, 13, 14, 15, 16, 17, 18, 19, 20] (by decide +kernel) (by decide +kernel)
set_option maxRecDepth 20000 in
theorem gX10_isSameAsAt_X10_byteAt : GoodIn wsX10_isSameAsAt (wsV RX10 38 RX10 yX10_byteAt wsX10_byteAt) := goodIn_app (goodIn_of _ (by decide +kernel)) ggX10_isSameAsAt_X10_byteAt
theorem dX10_isSameAsAt_0 : decode cX10_isSameAsAt 0 = .ok (.iload_n 2, 1) := by decide +kernel
theorem dX10_isSameAsAt_1 : decode cX10_isSameAsAt 1 = .ok (.aload_n 0, 1) := by decide +kernel
theorem dX10_isSameAsAt_2 : decode cX10_isSameAsAt 2 = .ok (.invokevirtual 57, 3) := by decide +kernel
theorem dX10_isSameAsAt_5 : decode cX10_isSameAsAt 5 = .ok (.if_icmp .eq 5, 3) := by decide +kernel
theorem dX10_isSameAsAt_8 : decode cX10_isSameAsAt 8 = .ok (.iconst 0, 1) := by decide +kernel
theorem dX10_isSameAsAt_9 : decode cX10_isSameAsAt 9 = .ok (.ireturn, 1) := by decide +kernel
theorem dX10_isSameAsAt_10 : decode cX10_isSameAsAt 10 = .ok (.iconst 0, 1) := by decide +kernel
theorem dX10_isSameAsAt_11 : decode cX10_isSameAsAt 11 = .ok (.istore_n 3, 1) := by decide +kernel
theorem dX10_isSameAsAt_12 : decode cX10_isSameAsAt 12 = .ok (.iload_n 3, 1) := by decide +kernel
theorem dX10_isSameAsAt_13 : decode cX10_isSameAsAt 13 = .ok (.iload_n 2, 1) := by decide +kernel
theorem dX10_isSameAsAt_14 : decode cX10_isSameAsAt 14 = .ok (.if_icmp .ge 31, 3) := by decide +kernel
theorem dX10_isSameAsAt_17 : decode cX10_isSameAsAt 17 = .ok (.aload_n 0, 1) := by decide +kernel
theorem dX10_isSameAsAt_18 : decode cX10_isSameAsAt 18 = .ok (.aload_n 0, 1) := by decide +kernel
theorem dX10_isSameAsAt_19 : decode cX10_isSameAsAt 19 = .ok (.getfield 32, 3) := by decide +kernel
theorem dX10_isSameAsAt_22 : decode cX10_isSameAsAt 22 = .ok (.iload_n 3, 1) := by decide +kernel
theorem dX10_isSameAsAt_23 : decode cX10_isSameAsAt 23 = .ok (.iadd, 1) := by decide +kernel
theorem dX10_isSameAsAt_24 : decode cX10_isSameAsAt 24 = .ok (.invokevirtual 38, 3) := by decide +kernel
theorem dX10_isSameAsAt_27 : decode cX10_isSameAsAt 27 = .ok (.aload_n 0, 1) := by decide +kernel
theorem dX10_isSameAsAt_28 : decode cX10_isSameAsAt 28 = .ok (.iload_n 1, 1) := by decide +kernel
theorem dX10_isSameAsAt_29 : decode cX10_isSameAsAt 29 = .ok (.iload_n 3, 1) := by decide +kernel
theorem dX10_isSameAsAt_30 : decode cX10_isSameAsAt 30 = .ok (.iadd, 1) := by decide +kernel
theorem dX10_isSameAsAt_31 : decode cX10_isSameAsAt 31 = .ok (.invokevirtual 38, 3) := by decide +kernel
theorem dX10_isSameAsAt_34 : decode cX10_isSameAsAt 34 = .ok (.if_icmp .eq 5, 3) := by decide +kernel
theorem dX10_isSameAsAt_37 : decode cX10_isSameAsAt 37 = .ok (.iconst 0, 1) := by decide +kernel
theorem dX10_isSameAsAt_38 : decode cX10_isSameAsAt 38 = .ok (.ireturn, 1) := by decide +kernel
theorem dX10_isSameAsAt_39 : decode cX10_isSameAsAt 39 = .ok (.iinc 3 1, 3) := by decide +kernel
theorem dX10_isSameAsAt_42 : decode cX10_isSameAsAt 42 = .ok (.goto (-30), 3) := by decide +kernel
theorem dX10_isSameAsAt_45 : decode cX10_isSameAsAt 45 = .ok (.iconst 1, 1) := by decide +kernel
theorem dX10_isSameAsAt_46 : decode cX10_isSameAsAt 46 = .ok (.ireturn, 1) := by decide +kernel
set_option maxRecDepth 20000 in
theorem ggX11_init_X10_init : GoodIn wsX11_init wsX10_init := goodIn_r _ [45, 46, 2, 3, 47, 48, 138, 139, 140, 141, 142, 143, 144] (by decide +kernel) (by decide +kernel)
set_option maxRecDepth 20000 in
theorem gX11_init_X10_init_n9 : GoodIn wsX11_init (wsX10_init) := ggX11_init_X10_init
set_option maxRecDepth 20000 in
theorem ggX11_init_X5_init : GoodIn wsX11_init wsX5_init := goodIn_r _ [51, 52, 2, 3, 53, 29, 30, 54, 55, 17, 18, 56, 47, 57, 58, 59, 60, 61, 62, 63, 64, 65, 66, 67, 21, 22, 68, 69, 70, 71, 72, 73, 74, 75, 76, 77, 78, 79, 80, 81, 82, 83, 84, 180, 181, 182, 183, 155, 156, 157, 158, 159, 160, 161, 162, 163, 164, 165, 166, 167, 171, 172, 173, 174] (by decide +kernel) (by decide +kernel)
set_option maxRecDepth 20000 in
theorem gX11_init_X5_init : GoodIn wsX11_init (wsX5_init) := ggX11_init_X5_init
set_option maxRecDepth 20000 in
theorem ggX11_init_X6_init : GoodIn wsX11_init wsX6_init := goodIn_r _ [86, 87, 2, 3, 47, 88, 168, 169, 170] (by decide +kernel) (by decide +kernel)
set_option maxRecDepth 20000 in
theorem gX11_init_X6_init_n27 : GoodIn wsX11_init (wsX6_init) := ggX11_init_X6_init
set_option maxRecDepth 20000 in
theorem ggX11_init_X4_init : GoodIn wsX11_init wsX4_init := goodIn_r _ [81, 82, 2, 3, 47, 83, 84, 171, 172, 173] (by decide +kernel) (by decide +kernel)
set_option maxRecDepth 20000 in
theorem gX11_init_X4_init_n34 : GoodIn wsX11_init (wsX4_init) := ggX11_init_X4_init
set_option maxRecDepth 20000 in
theorem ggX11_init_X7_init : GoodIn wsX11_init wsX7_init := goodIn_r _ [70, 71, 2, 3, 72, 73, 74, 75, 76, 77, 78, 79, 174] (by decide +kernel) (by decide +kernel)
set_option maxRecDepth 20000 in
theorem gX11_init_X7_init_n41 : GoodIn wsX11_init (wsX7_init) := ggX11_init_X7_init
set_option maxRecDepth 20000 in
theorem ggX11_init_X3_init : GoodIn wsX11_init wsX3_init := goodIn_r _ [90, 91, 2, 3, 47, 92, 93, 94, 175, 176, 177, 178, 179] (by decide +kernel) (by decide +kernel)
set_option maxRecDepth 20000 in
theorem gX11_init_X3_init_n48 : GoodIn wsX11_init (wsX3_init) := ggX11_init_X3_init
set_option maxRecDepth 20000 in
theorem ggX11_init_X8_init : GoodIn wsX11_init wsX8_init := goodIn_r _ [64, 65, 2, 3, 47, 66, 67, 21, 22, 68, 69, 70, 71, 72, 73, 74, 75, 76, 77, 78, 79, 180, 181, 182, 183, 174] (by decide +kernel) (by decide +kernel)
set_option maxRecDepth 20000 in
theorem gX11_init_X8_init_n55 : GoodIn wsX11_init (wsX8_init) := ggX11_init_X8_init
set_option maxRecDepth 20000 in
theorem ggX11_init_X0_init : GoodIn wsX11_init wsX0_init := goodIn_r _ [97, 98, 2, 3, 99, 100, 101, 102, 103, 104, 105, 106, 107, 108, 47, 109, 110, 111, 112, 113, 211, 212, 213, 214, 215, 216, 217, 218, 219, 220, 184, 185, 186, 187, 188] (by decide +kernel) (by decide +kernel)
set_option maxRecDepth 20000 in
theorem gX11_init_X0_init : GoodIn wsX11_init (wsX0_init) := ggX11_init_X0_init
set_option maxRecDepth 20000 in
theorem ggX11_init_X1_init : GoodIn wsX11_init wsX1_init := goodIn_r _ [116, 117, 2, 3, 47, 118, 119, 120, 121, 122, 123, 124, 125, 126, 127, 128, 189, 190, 191, 192, 193, 194, 195, 196, 197, 198, 199, 184, 185, 186, 187, 188] (by decide +kernel) (by decide +kernel)
set_option maxRecDepth 20000 in
theorem gX11_init_X1_init : GoodIn wsX11_init (wsX1_init) := ggX11_init_X1_init
set_option maxRecDepth 20000 in
theorem ggX11_init_X9_init : GoodIn wsX11_init wsX9_init := goodIn_r _ [131, 132, 2, 3, 47, 133, 122, 134, 135, 136, 137, 200, 201, 202, 203, 204, 205, 206, 207, 208, 209, 210, 184, 185, 186, 187, 188] (by decide +kernel) (by decide +kernel)
set_option maxRecDepth 20000 in
theorem gX11_init_X9_init : GoodIn wsX11_init (wsX9_init) := ggX11_init_X9_init
theorem dX11_init_0 : decode cX11_init 0 = .ok (.aload_n 0, 1) := by decide +kernel
theorem dX11_init_1 : decode cX11_init 1 = .ok (.invokespecial 1, 3) := by decide +kernel
theorem dX11_init_4 : decode cX11_init 4 = .ok (.aload_n 0, 1) := by decide +kernel
theorem dX11_init_5 : decode cX11_init 5 = .ok (.new 7, 3) := by decide +kernel
theorem dX11_init_8 : decode cX11_init 8 = .ok (.dup, 1) := by decide +kernel
theorem dX11_init_9 : decode cX11_init 9 = .ok (.invokespecial 9, 3) := by decide +kernel
theorem dX11_init_12 : decode cX11_init 12 = .ok (.putfield 10, 3) := by decide +kernel
theorem dX11_init_15 : decode cX11_init 15 = .ok (.aload_n 0, 1) := by decide +kernel
theorem dX11_init_16 : decode cX11_init 16 = .ok (.new 16, 3) := by decide +kernel
theorem dX11_init_19 : decode cX11_init 19 = .ok (.dup, 1) := by decide +kernel
theorem dX11_init_20 : decode cX11_init 20 = .ok (.aload_n 0, 1) := by decide +kernel
theorem dX11_init_21 : decode cX11_init 21 = .ok (.getfield 10, 3) := by decide +kernel
theorem dX11_init_24 : decode cX11_init 24 = .ok (.invokespecial 18, 3) := by decide +kernel
theorem dX11_init_27 : decode cX11_init 27 = .ok (.putfield 21, 3) := by decide +kernel
theorem dX11_init_30 : decode cX11_init 30 = .ok (.aload_n 0, 1) := by decide +kernel
theorem dX11_init_31 : decode cX11_init 31 = .ok (.new 25, 3) := by decide +kernel
theorem dX11_init_34 : decode cX11_init 34 = .ok (.dup, 1) := by decide +kernel
theorem dX11_init_35 : decode cX11_init 35 = .ok (.invokespecial 27, 3) := by decide +kernel
theorem dX11_init_38 : decode cX11_init 38 = .ok (.putfield 28, 3) := by decide +kernel
theorem dX11_init_41 : decode cX11_init 41 = .ok (.aload_n 0, 1) := by decide +kernel
theorem dX11_init_42 : decode cX11_init 42 = .ok (.new 32, 3) := by decide +kernel
theorem dX11_init_45 : decode cX11_init 45 = .ok (.dup, 1) := by decide +kernel
theorem dX11_init_46 : decode cX11_init 46 = .ok (.invokespecial 34, 3) := by decide +kernel
theorem dX11_init_49 : decode cX11_init 49 = .ok (.putfield 35, 3) := by decide +kernel
theorem dX11_init_52 : decode cX11_init 52 = .ok (.aload_n 0, 1) := by decide +kernel
theorem dX11_init_53 : decode cX11_init 53 = .ok (.new 39, 3) := by decide +kernel
theorem dX11_init_56 : decode cX11_init 56 = .ok (.dup, 1) := by decide +kernel
theorem dX11_init_57 : decode cX11_init 57 = .ok (.invokespecial 41, 3) := by decide +kernel
theorem dX11_init_60 : decode cX11_init 60 = .ok (.putfield 42, 3) := by decide +kernel
theorem dX11_init_63 : decode cX11_init 63 = .ok (.aload_n 0, 1) := by decide +kernel
theorem dX11_init_64 : decode cX11_init 64 = .ok (.new 46, 3) := by decide +kernel
theorem dX11_init_67 : decode cX11_init 67 = .ok (.dup, 1) := by decide +kernel
theorem dX11_init_68 : decode cX11_init 68 = .ok (.invokespecial 48, 3) := by decide +kernel
theorem dX11_init_71 : decode cX11_init 71 = .ok (.putfield 49, 3) := by decide +kernel
theorem dX11_init_74 : decode cX11_init 74 = .ok (.aload_n 0, 1) := by decide +kernel
theorem dX11_init_75 : decode cX11_init 75 = .ok (.iconst 3, 1) := by decide +kernel
theorem dX11_init_76 : decode cX11_init 76 = .ok (.anewarray 53, 3) := by decide +kernel
theorem dX11_init_79 : decode cX11_init 79 = .ok (.dup, 1) := by decide +kernel
theorem dX11_init_80 : decode cX11_init 80 = .ok (.iconst 0, 1) := by decide +kernel
theorem dX11_init_81 : decode cX11_init 81 = .ok (.new 53, 3) := by decide +kernel
theorem dX11_init_84 : decode cX11_init 84 = .ok (.dup, 1) := by decide +kernel
theorem dX11_init_85 : decode cX11_init 85 = .ok (.invokespecial 55, 3) := by decide +kernel
theorem dX11_init_88 : decode cX11_init 88 = .ok (.aastore, 1) := by decide +kernel
theorem dX11_init_89 : decode cX11_init 89 = .ok (.dup, 1) := by decide +kernel
theorem dX11_init_90 : decode cX11_init 90 = .ok (.iconst 1, 1) := by decide +kernel
theorem dX11_init_91 : decode cX11_init 91 = .ok (.new 53, 3) := by decide +kernel
theorem dX11_init_94 : decode cX11_init 94 = .ok (.dup, 1) := by decide +kernel
theorem dX11_init_95 : decode cX11_init 95 = .ok (.invokespecial 55, 3) := by decide +kernel
theorem dX11_init_98 : decode cX11_init 98 = .ok (.aastore, 1) := by decide +kernel
theorem dX11_init_99 : decode cX11_init 99 = .ok (.dup, 1) := by decide +kernel
theorem dX11_init_100 : decode cX11_init 100 = .ok (.iconst 2, 1) := by decide +kernel
theorem dX11_init_101 : decode cX11_init 101 = .ok (.new 53, 3) := by decide +kernel
theorem dX11_init_104 : decode cX11_init 104 = .ok (.dup, 1) := by decide +kernel
theorem dX11_init_105 : decode cX11_init 105 = .ok (.invokespecial 55, 3) := by decide +kernel
theorem dX11_init_108 : decode cX11_init 108 = .ok (.aastore, 1) := by decide +kernel
theorem dX11_init_109 : decode cX11_init 109 = .ok (.putfield 56, 3) := by decide +kernel
theorem dX11_init_112 : decode cX11_init 112 = .ok (.aload_n 0, 1) := by decide +kernel
theorem dX11_init_113 : decode cX11_init 113 = .ok (.new 60, 3) := by decide +kernel
theorem dX11_init_116 : decode cX11_init 116 = .ok (.dup, 1) := by decide +kernel
theorem dX11_init_117 : decode cX11_init 117 = .ok (.aload_n 0, 1) := by decide +kernel
theorem dX11_init_118 : decode cX11_init 118 = .ok (.getfield 28, 3) := by decide +kernel
theorem dX11_init_121 : decode cX11_init 121 = .ok (.aload_n 0, 1) := by decide +kernel
theorem dX11_init_122 : decode cX11_init 122 = .ok (.getfield 35, 3) := by decide +kernel
theorem dX11_init_125 : decode cX11_init 125 = .ok (.aload_n 0, 1) := by decide +kernel
theorem dX11_init_126 : decode cX11_init 126 = .ok (.getfield 42, 3) := by decide +kernel
theorem dX11_init_129 : decode cX11_init 129 = .ok (.invokespecial 62, 3) := by decide +kernel
theorem dX11_init_132 : decode cX11_init 132 = .ok (.putfield 65, 3) := by decide +kernel
theorem dX11_init_135 : decode cX11_init 135 = .ok (.aload_n 0, 1) := by decide +kernel
theorem dX11_init_136 : decode cX11_init 136 = .ok (.new 69, 3) := by decide +kernel
theorem dX11_init_139 : decode cX11_init 139 = .ok (.dup, 1) := by decide +kernel
theorem dX11_init_140 : decode cX11_init 140 = .ok (.aload_n 0, 1) := by decide +kernel
theorem dX11_init_141 : decode cX11_init 141 = .ok (.getfield 65, 3) := by decide +kernel
theorem dX11_init_144 : decode cX11_init 144 = .ok (.invokespecial 71, 3) := by decide +kernel
theorem dX11_init_147 : decode cX11_init 147 = .ok (.putfield 74, 3) := by decide +kernel
theorem dX11_init_150 : decode cX11_init 150 = .ok (.aload_n 0, 1) := by decide +kernel
theorem dX11_init_151 : decode cX11_init 151 = .ok (.new 78, 3) := by decide +kernel
theorem dX11_init_154 : decode cX11_init 154 = .ok (.dup, 1) := by decide +kernel
theorem dX11_init_155 : decode cX11_init 155 = .ok (.aload_n 0, 1) := by decide +kernel
theorem dX11_init_156 : decode cX11_init 156 = .ok (.getfield 65, 3) := by decide +kernel
theorem dX11_init_159 : decode cX11_init 159 = .ok (.invokespecial 80, 3) := by decide +kernel
theorem dX11_init_162 : decode cX11_init 162 = .ok (.putfield 81, 3) := by decide +kernel
theorem dX11_init_165 : decode cX11_init 165 = .ok (.return_, 1) := by decide +kernel
set_option maxRecDepth 20000 in
theorem ggX11_feed_X10_addFour : GoodIn wsX11_feed wsX10_addFour := goodIn_r _ [7, 8, 9, 20, 21, 22, 23, 24, 25, 26] (by decide +kernel) (by decide +kernel)
set_option maxRecDepth 20000 in
theorem gX11_feed_X10_addFour : GoodIn wsX11_feed (wsV RX11 89 RX10 yX10_addFour wsX10_addFour) := goodIn_app (goodIn_of _ (by decide +kernel)) ggX11_feed_X10_addFour
theorem dX11_feed_0 : decode cX11_feed 0 = .ok (.aload_n 0, 1) := by decide +kernel
theorem dX11_feed_1 : decode cX11_feed 1 = .ok (.getfield 10, 3) := by decide +kernel
theorem dX11_feed_4 : decode cX11_feed 4 = .ok (.getfield 85, 3) := by decide +kernel
theorem dX11_feed_7 : decode cX11_feed 7 = .ok (.sipush 1980, 3) := by decide +kernel
theorem dX11_feed_10 : decode cX11_feed 10 = .ok (.if_icmp .le 5, 3) := by decide +kernel
theorem dX11_feed_13 : decode cX11_feed 13 = .ok (.iconst (-1), 1) := by decide +kernel
theorem dX11_feed_14 : decode cX11_feed 14 = .ok (.ireturn, 1) := by decide +kernel
theorem dX11_feed_15 : decode cX11_feed 15 = .ok (.aload_n 0, 1) := by decide +kernel
theorem dX11_feed_16 : decode cX11_feed 16 = .ok (.getfield 10, 3) := by decide +kernel
theorem dX11_feed_19 : decode cX11_feed 19 = .ok (.iload_n 1, 1) := by decide +kernel
theorem dX11_feed_20 : decode cX11_feed 20 = .ok (.invokevirtual 89, 3) := by decide +kernel
theorem dX11_feed_23 : decode cX11_feed 23 = .ok (.aload_n 0, 1) := by decide +kernel
theorem dX11_feed_24 : decode cX11_feed 24 = .ok (.getfield 10, 3) := by decide +kernel
theorem dX11_feed_27 : decode cX11_feed 27 = .ok (.iload_n 2, 1) := by decide +kernel
theorem dX11_feed_28 : decode cX11_feed 28 = .ok (.invokevirtual 89, 3) := by decide +kernel
theorem dX11_feed_31 : decode cX11_feed 31 = .ok (.aload_n 0, 1) := by decide +kernel
theorem dX11_feed_32 : decode cX11_feed 32 = .ok (.getfield 10, 3) := by decide +kernel
theorem dX11_feed_35 : decode cX11_feed 35 = .ok (.iload_n 3, 1) := by decide +kernel
theorem dX11_feed_36 : decode cX11_feed 36 = .ok (.invokevirtual 89, 3) := by decide +kernel
theorem dX11_feed_39 : decode cX11_feed 39 = .ok (.aload_n 0, 1) := by decide +kernel
theorem dX11_feed_40 : decode cX11_feed 40 = .ok (.getfield 10, 3) := by decide +kernel
theorem dX11_feed_43 : decode cX11_feed 43 = .ok (.iload 4, 2) := by decide +kernel
theorem dX11_feed_45 : decode cX11_feed 45 = .ok (.invokevirtual 89, 3) := by decide +kernel
theorem dX11_feed_48 : decode cX11_feed 48 = .ok (.aload_n 0, 1) := by decide +kernel
theorem dX11_feed_49 : decode cX11_feed 49 = .ok (.getfield 10, 3) := by decide +kernel
theorem dX11_feed_52 : decode cX11_feed 52 = .ok (.iload 5, 2) := by decide +kernel
theorem dX11_feed_54 : decode cX11_feed 54 = .ok (.invokevirtual 89, 3) := by decide +kernel
theorem dX11_feed_57 : decode cX11_feed 57 = .ok (.aload_n 0, 1) := by decide +kernel
theorem dX11_feed_58 : decode cX11_feed 58 = .ok (.getfield 10, 3) := by decide +kernel
theorem dX11_feed_61 : decode cX11_feed 61 = .ok (.getfield 85, 3) := by decide +kernel
theorem dX11_feed_64 : decode cX11_feed 64 = .ok (.ireturn, 1) := by decide +kernel
theorem dX11_back_0 : decode cX11_back 0 = .ok (.iload_n 1, 1) := by decide +kernel
theorem dX11_back_1 : decode cX11_back 1 = .ok (.ifCond .lt 14, 3) := by decide +kernel
theorem dX11_back_4 : decode cX11_back 4 = .ok (.iload_n 1, 1) := by decide +kernel
theorem dX11_back_5 : decode cX11_back 5 = .ok (.aload_n 0, 1) := by decide +kernel
theorem dX11_back_6 : decode cX11_back 6 = .ok (.getfield 10, 3) := by decide +kernel
theorem dX11_back_9 : decode cX11_back 9 = .ok (.getfield 85, 3) := by decide +kernel
theorem dX11_back_12 : decode cX11_back 12 = .ok (.if_icmp .le 5, 3) := by decide +kernel
theorem dX11_back_15 : decode cX11_back 15 = .ok (.iconst (-1), 1) := by decide +kernel
theorem dX11_back_16 : decode cX11_back 16 = .ok (.ireturn, 1) := by decide +kernel
theorem dX11_back_17 : decode cX11_back 17 = .ok (.aload_n 0, 1) := by decide +kernel
theorem dX11_back_18 : decode cX11_back 18 = .ok (.getfield 10, 3) := by decide +kernel
theorem dX11_back_21 : decode cX11_back 21 = .ok (.dup, 1) := by decide +kernel
theorem dX11_back_22 : decode cX11_back 22 = .ok (.getfield 85, 3) := by decide +kernel
theorem dX11_back_25 : decode cX11_back 25 = .ok (.iload_n 1, 1) := by decide +kernel
theorem dX11_back_26 : decode cX11_back 26 = .ok (.isub, 1) := by decide +kernel
theorem dX11_back_27 : decode cX11_back 27 = .ok (.putfield 85, 3) := by decide +kernel
theorem dX11_back_30 : decode cX11_back 30 = .ok (.aload_n 0, 1) := by decide +kernel
theorem dX11_back_31 : decode cX11_back 31 = .ok (.getfield 10, 3) := by decide +kernel
theorem dX11_back_34 : decode cX11_back 34 = .ok (.getfield 85, 3) := by decide +kernel
theorem dX11_back_37 : decode cX11_back 37 = .ok (.ireturn, 1) := by decide +kernel
set_option maxRecDepth 20000 in
theorem ggX11_read_X5_readText : GoodIn wsX11_read wsX5_readText := goodIn_r _ [13, 14, 15, 16, 17, 18, 19, 20, 21, 12, 22, 23, 24, 25, 26, 27, 28, 29, 30, 31, 32, 33, 34, 35, 36, 37, 38, 39, 40, 41, 42, 43, 44, 45, 46, 47, 48, 49, 50, 51, 52, 53, 54, 55, 56, 57, 58, 59, 60, 61, 62, 63, 64, 65, 66, 67, 68, 69, 70, 71, 72, 73, 74, 75, 76, 77, 78, 79, 80, 81, 82, 83, 84, 85, 86, 87, 88, 89, 90, 91, 92, 93, 94, 95, 96, 97, 98, 99, 100, 101, 102, 103, 104, 105, 106, 107, 108, 109, 110, 111, 112, 113, 114, 115, 116, 117, 118, 119, 120, 121, 122, 123, 124, 125, 126, 127, 128, 129, 130, 131, 132, 133, 134, 135, 136, 137, 138, 139, 140, 141, 142, 143, 144, 145, 146, 147, 148, 149, 150, 151, 152, 153, 154, 155, 156, 157, 158, 159, 160, 161, 162, 163, 164, 165, 166, 167, 168, 169, 170, 171, 172, 173, 174, 175, 176, 177, 178, 179, 180, 181, 182, 183, 184, 185, 186, 187, 188, 189, 190, 191, 192, 193, 194, 195, 196, 197, 198, 199, 200, 201, 202, 203, 204, 205, 206, 207, 208, 209, 210, 211, 212, 213, 214, 215, 216, 217, 218, 219, 220, 221, 222, 223, 224, 225, 226, 227, 228, 229, 230, 231, 232, 233, 234, 235, 236, 237, 238, 239, 240, 241, 242, 243, 244, 245, 246, 247, 248, 249, 250, 251, 323, 324, 325, 326, 327, 328, 329, 330, 331, 332, 333, 334, 335, 316, 317, 318, 319, 320, 321, 322, 340, 341, 342, 336, 337, 338, 339, 343] (by decide +kernel) (by decide +kernel)
set_option maxRecDepth 20000 in
theorem gX11_read_X5_readText : GoodIn wsX11_read (wsV RX11 93 RX5 yX5_readText wsX5_readText) := goodIn_app (goodIn_of _ (by decide +kernel)) ggX11_read_X5_readText
set_option maxRecDepth 20000 in
theorem ggX11_read_X4_takeFrom : GoodIn wsX11_read wsX4_takeFrom := goodIn_r _ [255, 216, 256, 212, 213, 214, 215, 217, 257, 258, 259, 260, 247, 248, 249, 250, 261, 262, 263, 264, 246, 265, 243, 244, 245, 340, 341, 342] (by decide +kernel) (by decide +kernel)
set_option maxRecDepth 20000 in
theorem gX11_read_X4_takeFrom : GoodIn wsX11_read (wsV RX11 98 RX4 yX4_takeFrom wsX4_takeFrom) := goodIn_app (goodIn_of _ (by decide +kernel)) ggX11_read_X4_takeFrom
set_option maxRecDepth 20000 in
theorem ggX11_read_X11_goOnFrom : GoodIn wsX11_read wsX11_goOnFrom := goodIn_r _ [270, 271, 272, 273, 274, 275, 276, 277, 278, 279, 280, 281, 282, 283, 284, 285, 33, 286, 35, 241, 287, 288, 289, 290, 291, 292, 293, 294, 40, 295, 47, 296, 297, 298, 299, 300, 301, 302, 303, 304, 305, 306, 307, 308, 309, 310, 311, 312, 313, 314, 315, 336, 337, 338, 339, 344, 345, 346, 343, 347, 348, 349, 350, 351] (by decide +kernel) (by decide +kernel)
set_option maxRecDepth 20000 in
theorem gX11_read_X11_goOnFrom : GoodIn wsX11_read (wsV RX11 106 RX11 yX11_goOnFrom wsX11_goOnFrom) := goodIn_app (goodIn_of _ (by decide +kernel)) ggX11_read_X11_goOnFrom
theorem dX11_read_0 : decode cX11_read 0 = .ok (.aload_n 0, 1) := by decide +kernel
theorem dX11_read_1 : decode cX11_read 1 = .ok (.getfield 21, 3) := by decide +kernel
theorem dX11_read_4 : decode cX11_read 4 = .ok (.invokevirtual 93, 3) := by decide +kernel
theorem dX11_read_7 : decode cX11_read 7 = .ok (.istore_n 1, 1) := by decide +kernel
theorem dX11_read_8 : decode cX11_read 8 = .ok (.aload_n 0, 1) := by decide +kernel
theorem dX11_read_9 : decode cX11_read 9 = .ok (.getfield 10, 3) := by decide +kernel
theorem dX11_read_12 : decode cX11_read 12 = .ok (.iconst 0, 1) := by decide +kernel
theorem dX11_read_13 : decode cX11_read 13 = .ok (.putfield 85, 3) := by decide +kernel
theorem dX11_read_16 : decode cX11_read 16 = .ok (.iload_n 1, 1) := by decide +kernel
theorem dX11_read_17 : decode cX11_read 17 = .ok (.ifCond .ne 55, 3) := by decide +kernel
theorem dX11_read_20 : decode cX11_read 20 = .ok (.aload_n 0, 1) := by decide +kernel
theorem dX11_read_21 : decode cX11_read 21 = .ok (.getfield 35, 3) := by decide +kernel
theorem dX11_read_24 : decode cX11_read 24 = .ok (.aload_n 0, 1) := by decide +kernel
theorem dX11_read_25 : decode cX11_read 25 = .ok (.getfield 21, 3) := by decide +kernel
theorem dX11_read_28 : decode cX11_read 28 = .ok (.getfield 97, 3) := by decide +kernel
theorem dX11_read_31 : decode cX11_read 31 = .ok (.invokevirtual 98, 3) := by decide +kernel
theorem dX11_read_34 : decode cX11_read 34 = .ok (.aload_n 0, 1) := by decide +kernel
theorem dX11_read_35 : decode cX11_read 35 = .ok (.aload_n 0, 1) := by decide +kernel
theorem dX11_read_36 : decode cX11_read 36 = .ok (.getfield 21, 3) := by decide +kernel
theorem dX11_read_39 : decode cX11_read 39 = .ok (.getfield 102, 3) := by decide +kernel
theorem dX11_read_42 : decode cX11_read 42 = .ok (.invokevirtual 106, 3) := by decide +kernel
theorem dX11_read_45 : decode cX11_read 45 = .ok (.iconst 0, 1) := by decide +kernel
theorem dX11_read_46 : decode cX11_read 46 = .ok (.istore_n 2, 1) := by decide +kernel
theorem dX11_read_47 : decode cX11_read 47 = .ok (.iload_n 2, 1) := by decide +kernel
theorem dX11_read_48 : decode cX11_read 48 = .ok (.aload_n 0, 1) := by decide +kernel
theorem dX11_read_49 : decode cX11_read 49 = .ok (.getfield 56, 3) := by decide +kernel
theorem dX11_read_52 : decode cX11_read 52 = .ok (.arraylength, 1) := by decide +kernel
theorem dX11_read_53 : decode cX11_read 53 = .ok (.if_icmp .ge 19, 3) := by decide +kernel
theorem dX11_read_56 : decode cX11_read 56 = .ok (.aload_n 0, 1) := by decide +kernel
theorem dX11_read_57 : decode cX11_read 57 = .ok (.getfield 56, 3) := by decide +kernel
theorem dX11_read_60 : decode cX11_read 60 = .ok (.iload_n 2, 1) := by decide +kernel
theorem dX11_read_61 : decode cX11_read 61 = .ok (.aaload, 1) := by decide +kernel
theorem dX11_read_62 : decode cX11_read 62 = .ok (.iconst 0, 1) := by decide +kernel
theorem dX11_read_63 : decode cX11_read 63 = .ok (.putfield 110, 3) := by decide +kernel
theorem dX11_read_66 : decode cX11_read 66 = .ok (.iinc 2 1, 3) := by decide +kernel
theorem dX11_read_69 : decode cX11_read 69 = .ok (.goto (-22), 3) := by decide +kernel
theorem dX11_read_72 : decode cX11_read 72 = .ok (.iload_n 1, 1) := by decide +kernel
theorem dX11_read_73 : decode cX11_read 73 = .ok (.ireturn, 1) := by decide +kernel
theorem dX11_place_0 : decode cX11_place 0 = .ok (.aload_n 0, 1) := by decide +kernel
theorem dX11_place_1 : decode cX11_place 1 = .ok (.getfield 21, 3) := by decide +kernel
theorem dX11_place_4 : decode cX11_place 4 = .ok (.getfield 114, 3) := by decide +kernel
theorem dX11_place_7 : decode cX11_place 7 = .ok (.ireturn, 1) := by decide +kernel
theorem dX11_cause_0 : decode cX11_cause 0 = .ok (.aload_n 0, 1) := by decide +kernel
theorem dX11_cause_1 : decode cX11_cause 1 = .ok (.getfield 21, 3) := by decide +kernel
theorem dX11_cause_4 : decode cX11_cause 4 = .ok (.getfield 117, 3) := by decide +kernel
theorem dX11_cause_7 : decode cX11_cause 7 = .ok (.ireturn, 1) := by decide +kernel
set_option maxRecDepth 20000 in
theorem ggX11_at_X6_valueAt : GoodIn wsX11_at wsX6_valueAt := goodIn_r _ [6, 7, 8, 9, 20, 21, 22] (by decide +kernel) (by decide +kernel)
set_option maxRecDepth 20000 in
theorem gX11_at_X6_valueAt : GoodIn wsX11_at (wsV RX11 120 RX6 yX6_valueAt wsX6_valueAt) := goodIn_app (goodIn_of _ (by decide +kernel)) ggX11_at_X6_valueAt
theorem dX11_at_0 : decode cX11_at 0 = .ok (.aload_n 0, 1) := by decide +kernel
theorem dX11_at_1 : decode cX11_at 1 = .ok (.getfield 28, 3) := by decide +kernel
theorem dX11_at_4 : decode cX11_at 4 = .ok (.iload_n 1, 1) := by decide +kernel
theorem dX11_at_5 : decode cX11_at 5 = .ok (.invokevirtual 120, 3) := by decide +kernel
theorem dX11_at_8 : decode cX11_at 8 = .ok (.ireturn, 1) := by decide +kernel
set_option maxRecDepth 20000 in
theorem ggX11_query_X4_valueAt : GoodIn wsX11_query wsX4_valueAt := goodIn_r _ [6, 7, 8, 9, 10, 5, 11, 12, 13, 14, 15, 16, 17, 28, 29, 30] (by decide +kernel) (by decide +kernel)
set_option maxRecDepth 20000 in
theorem gX11_query_X4_valueAt : GoodIn wsX11_query (wsV RX11 124 RX4 yX4_valueAt wsX4_valueAt) := goodIn_app (goodIn_of _ (by decide +kernel)) ggX11_query_X4_valueAt
theorem dX11_query_0 : decode cX11_query 0 = .ok (.aload_n 0, 1) := by decide +kernel
theorem dX11_query_1 : decode cX11_query 1 = .ok (.getfield 35, 3) := by decide +kernel
theorem dX11_query_4 : decode cX11_query 4 = .ok (.iload_n 1, 1) := by decide +kernel
theorem dX11_query_5 : decode cX11_query 5 = .ok (.iload_n 2, 1) := by decide +kernel
theorem dX11_query_6 : decode cX11_query 6 = .ok (.invokevirtual 124, 3) := by decide +kernel
theorem dX11_query_9 : decode cX11_query 9 = .ok (.ireturn, 1) := by decide +kernel
set_option maxRecDepth 20000 in
theorem ggX11_push_X11_appendPlace : GoodIn wsX11_push wsX11_appendPlace := goodIn_r _ [5, 6, 7, 8, 9, 10, 11, 12, 13, 14, 15, 16, 17, 18, 19, 20, 21, 22, 23, 24, 25, 26, 27, 28, 29, 30, 31, 32, 33, 34, 35, 36, 37, 38, 39, 40, 41, 42, 43, 44, 45, 46, 47, 48] (by decide +kernel) (by decide +kernel)
set_option maxRecDepth 20000 in
theorem gX11_push_X11_appendPlace : GoodIn wsX11_push (wsV RX11 127 RX11 yX11_appendPlace wsX11_appendPlace) := goodIn_app (goodIn_of _ (by decide +kernel)) ggX11_push_X11_appendPlace
theorem dX11_push_0 : decode cX11_push 0 = .ok (.iload_n 1, 1) := by decide +kernel
theorem dX11_push_1 : decode cX11_push 1 = .ok (.sipush (-999), 3) := by decide +kernel
theorem dX11_push_4 : decode cX11_push 4 = .ok (.if_icmp .lt 10, 3) := by decide +kernel
theorem dX11_push_7 : decode cX11_push 7 = .ok (.iload_n 1, 1) := by decide +kernel
theorem dX11_push_8 : decode cX11_push 8 = .ok (.sipush 999, 3) := by decide +kernel
theorem dX11_push_11 : decode cX11_push 11 = .ok (.if_icmp .le 5, 3) := by decide +kernel
theorem dX11_push_14 : decode cX11_push 14 = .ok (.iconst (-1), 1) := by decide +kernel
theorem dX11_push_15 : decode cX11_push 15 = .ok (.ireturn, 1) := by decide +kernel
theorem dX11_push_16 : decode cX11_push 16 = .ok (.aload_n 0, 1) := by decide +kernel
theorem dX11_push_17 : decode cX11_push 17 = .ok (.iload_n 1, 1) := by decide +kernel
theorem dX11_push_18 : decode cX11_push 18 = .ok (.invokevirtual 127, 3) := by decide +kernel
theorem dX11_push_21 : decode cX11_push 21 = .ok (.ireturn, 1) := by decide +kernel
set_option maxRecDepth 20000 in
theorem ggX11_gap_X11_appendPlace : GoodIn wsX11_gap wsX11_appendPlace := goodIn_r _ [5, 6, 7, 8, 9, 10, 11, 12, 13, 14, 15, 16, 17, 18, 19, 20, 21, 22, 23, 24, 25, 26, 27, 28, 29, 30, 31, 32, 33, 34, 35, 36, 37, 38, 39, 40, 41, 42, 43, 44, 45, 46, 47, 48] (by decide +kernel) (by decide +kernel)
set_option maxRecDepth 20000 in
theorem gX11_gap_X11_appendPlace : GoodIn wsX11_gap (wsV RX11 127 RX11 yX11_appendPlace wsX11_appendPlace) := goodIn_app (goodIn_of _ (by decide +kernel)) ggX11_gap_X11_appendPlace
theorem dX11_gap_0 : decode cX11_gap 0 = .ok (.aload_n 0, 1) := by decide +kernel
theorem dX11_gap_1 : decode cX11_gap 1 = .ok (.sipush (-1000), 3) := by decide +kernel
theorem dX11_gap_4 : decode cX11_gap 4 = .ok (.invokevirtual 127, 3) := by decide +kernel
theorem dX11_gap_7 : decode cX11_gap 7 = .ok (.ireturn, 1) := by decide +kernel
set_option maxRecDepth 20000 in
theorem ggX11_appendPlace_X6_append : GoodIn wsX11_appendPlace wsX6_append := goodIn_r _ [8, 9, 10, 11, 36, 37, 38] (by decide +kernel) (by decide +kernel)
set_option maxRecDepth 20000 in
theorem gX11_appendPlace_X6_append : GoodIn wsX11_appendPlace (wsV RX11 130 RX6 yX6_append wsX6_append) := goodIn_app (goodIn_of _ (by decide +kernel)) ggX11_appendPlace_X6_append
set_option maxRecDepth 20000 in
theorem ggX11_appendPlace_X3_note : GoodIn wsX11_appendPlace wsX3_note := goodIn_r _ [16, 17, 18, 19, 20, 21, 22, 23, 24, 25, 39, 40, 41, 42, 43] (by decide +kernel) (by decide +kernel)
set_option maxRecDepth 20000 in
theorem gX11_appendPlace_X3_note : GoodIn wsX11_appendPlace (wsV RX11 134 RX3 yX3_note wsX3_note) := goodIn_app (goodIn_of _ (by decide +kernel)) ggX11_appendPlace_X3_note
theorem dX11_appendPlace_0 : decode cX11_appendPlace 0 = .ok (.aload_n 0, 1) := by decide +kernel
theorem dX11_appendPlace_1 : decode cX11_appendPlace 1 = .ok (.getfield 28, 3) := by decide +kernel
theorem dX11_appendPlace_4 : decode cX11_appendPlace 4 = .ok (.iload_n 1, 1) := by decide +kernel
theorem dX11_appendPlace_5 : decode cX11_appendPlace 5 = .ok (.invokevirtual 130, 3) := by decide +kernel
theorem dX11_appendPlace_8 : decode cX11_appendPlace 8 = .ok (.ifCond .ne 5, 3) := by decide +kernel
theorem dX11_appendPlace_11 : decode cX11_appendPlace 11 = .ok (.iconst (-1), 1) := by decide +kernel
theorem dX11_appendPlace_12 : decode cX11_appendPlace 12 = .ok (.ireturn, 1) := by decide +kernel
theorem dX11_appendPlace_13 : decode cX11_appendPlace 13 = .ok (.aload_n 0, 1) := by decide +kernel
theorem dX11_appendPlace_14 : decode cX11_appendPlace 14 = .ok (.getfield 49, 3) := by decide +kernel
theorem dX11_appendPlace_17 : decode cX11_appendPlace 17 = .ok (.iconst 0, 1) := by decide +kernel
theorem dX11_appendPlace_18 : decode cX11_appendPlace 18 = .ok (.iconst 0, 1) := by decide +kernel
theorem dX11_appendPlace_19 : decode cX11_appendPlace 19 = .ok (.iconst 0, 1) := by decide +kernel
theorem dX11_appendPlace_20 : decode cX11_appendPlace 20 = .ok (.invokevirtual 134, 3) := by decide +kernel
theorem dX11_appendPlace_23 : decode cX11_appendPlace 23 = .ok (.aload_n 0, 1) := by decide +kernel
theorem dX11_appendPlace_24 : decode cX11_appendPlace 24 = .ok (.getfield 28, 3) := by decide +kernel
theorem dX11_appendPlace_27 : decode cX11_appendPlace 27 = .ok (.getfield 138, 3) := by decide +kernel
theorem dX11_appendPlace_30 : decode cX11_appendPlace 30 = .ok (.ireturn, 1) := by decide +kernel
set_option maxRecDepth 20000 in
theorem ggX11_mend_X6_hasReading : GoodIn wsX11_mend wsX6_hasReading := goodIn_r _ [8, 9, 10, 11, 7, 12, 13, 14, 15, 49, 50, 51] (by decide +kernel) (by decide +kernel)
set_option maxRecDepth 20000 in
theorem gX11_mend_X6_hasReading : GoodIn wsX11_mend (wsV RX11 139 RX6 yX6_hasReading wsX6_hasReading) := goodIn_app (goodIn_of _ (by decide +kernel)) ggX11_mend_X6_hasReading
set_option maxRecDepth 20000 in
theorem ggX11_mend_X6_valueAt : GoodIn wsX11_mend wsX6_valueAt := goodIn_r _ [12, 13, 14, 15, 49, 50, 51] (by decide +kernel) (by decide +kernel)
set_option maxRecDepth 20000 in
theorem gX11_mend_X6_valueAt : GoodIn wsX11_mend (wsV RX11 120 RX6 yX6_valueAt wsX6_valueAt) := goodIn_app (goodIn_of _ (by decide +kernel)) ggX11_mend_X6_valueAt
set_option maxRecDepth 20000 in
theorem ggX11_mend_J9_floorDiv_7cf53 : GoodIn wsX11_mend wsJ9_floorDiv_7cf53 := goodIn_r _ [20] (by decide +kernel) (by decide +kernel)
set_option maxRecDepth 20000 in
theorem gX11_mend_J9_floorDiv_7cf53 : GoodIn wsX11_mend (va_wsS RX11 142 yJ9_floorDiv_7cf53 wsJ9_floorDiv_7cf53) := goodIn_app (goodIn_of _ (by decide +kernel)) ggX11_mend_J9_floorDiv_7cf53
set_option maxRecDepth 20000 in
theorem ggX11_mend_X6_putAt : GoodIn wsX11_mend wsX6_putAt := goodIn_r _ [24, 13, 14, 15, 49, 50, 51] (by decide +kernel) (by decide +kernel)
set_option maxRecDepth 20000 in
theorem gX11_mend_X6_putAt : GoodIn wsX11_mend (wsV RX11 147 RX6 yX6_putAt wsX6_putAt) := goodIn_app (goodIn_of _ (by decide +kernel)) ggX11_mend_X6_putAt
set_option maxRecDepth 20000 in
theorem ggX11_mend_X3_note : GoodIn wsX11_mend wsX3_note := goodIn_r _ [29, 30, 31, 32, 33, 34, 35, 36, 37, 38, 52, 53, 54, 55, 56] (by decide +kernel) (by decide +kernel)
set_option maxRecDepth 20000 in
theorem gX11_mend_X3_note : GoodIn wsX11_mend (wsV RX11 134 RX3 yX3_note wsX3_note) := goodIn_app (goodIn_of _ (by decide +kernel)) ggX11_mend_X3_note
theorem dX11_mend_0 : decode cX11_mend 0 = .ok (.iload_n 1, 1) := by decide +kernel
theorem dX11_mend_1 : decode cX11_mend 1 = .ok (.iconst 1, 1) := by decide +kernel
theorem dX11_mend_2 : decode cX11_mend 2 = .ok (.if_icmp .lt 27, 3) := by decide +kernel
theorem dX11_mend_5 : decode cX11_mend 5 = .ok (.iload_n 1, 1) := by decide +kernel
theorem dX11_mend_6 : decode cX11_mend 6 = .ok (.aload_n 0, 1) := by decide +kernel
theorem dX11_mend_7 : decode cX11_mend 7 = .ok (.getfield 28, 3) := by decide +kernel
theorem dX11_mend_10 : decode cX11_mend 10 = .ok (.getfield 138, 3) := by decide +kernel
theorem dX11_mend_13 : decode cX11_mend 13 = .ok (.iconst 1, 1) := by decide +kernel
theorem dX11_mend_14 : decode cX11_mend 14 = .ok (.isub, 1) := by decide +kernel
theorem dX11_mend_15 : decode cX11_mend 15 = .ok (.if_icmp .ge 14, 3) := by decide +kernel
theorem dX11_mend_18 : decode cX11_mend 18 = .ok (.aload_n 0, 1) := by decide +kernel
theorem dX11_mend_19 : decode cX11_mend 19 = .ok (.getfield 28, 3) := by decide +kernel
theorem dX11_mend_22 : decode cX11_mend 22 = .ok (.iload_n 1, 1) := by decide +kernel
theorem dX11_mend_23 : decode cX11_mend 23 = .ok (.invokevirtual 139, 3) := by decide +kernel
theorem dX11_mend_26 : decode cX11_mend 26 = .ok (.ifCond .eq 7, 3) := by decide +kernel
theorem dX11_mend_29 : decode cX11_mend 29 = .ok (.sipush (-1000), 3) := by decide +kernel
theorem dX11_mend_32 : decode cX11_mend 32 = .ok (.ireturn, 1) := by decide +kernel
theorem dX11_mend_33 : decode cX11_mend 33 = .ok (.aload_n 0, 1) := by decide +kernel
theorem dX11_mend_34 : decode cX11_mend 34 = .ok (.getfield 28, 3) := by decide +kernel
theorem dX11_mend_37 : decode cX11_mend 37 = .ok (.iload_n 1, 1) := by decide +kernel
theorem dX11_mend_38 : decode cX11_mend 38 = .ok (.iconst 1, 1) := by decide +kernel
theorem dX11_mend_39 : decode cX11_mend 39 = .ok (.isub, 1) := by decide +kernel
theorem dX11_mend_40 : decode cX11_mend 40 = .ok (.invokevirtual 139, 3) := by decide +kernel
theorem dX11_mend_43 : decode cX11_mend 43 = .ok (.ifCond .eq 16, 3) := by decide +kernel
theorem dX11_mend_46 : decode cX11_mend 46 = .ok (.aload_n 0, 1) := by decide +kernel
theorem dX11_mend_47 : decode cX11_mend 47 = .ok (.getfield 28, 3) := by decide +kernel
theorem dX11_mend_50 : decode cX11_mend 50 = .ok (.iload_n 1, 1) := by decide +kernel
theorem dX11_mend_51 : decode cX11_mend 51 = .ok (.iconst 1, 1) := by decide +kernel
theorem dX11_mend_52 : decode cX11_mend 52 = .ok (.iadd, 1) := by decide +kernel
theorem dX11_mend_53 : decode cX11_mend 53 = .ok (.invokevirtual 139, 3) := by decide +kernel
theorem dX11_mend_56 : decode cX11_mend 56 = .ok (.ifCond .ne 7, 3) := by decide +kernel
theorem dX11_mend_59 : decode cX11_mend 59 = .ok (.sipush (-1000), 3) := by decide +kernel
theorem dX11_mend_62 : decode cX11_mend 62 = .ok (.ireturn, 1) := by decide +kernel
theorem dX11_mend_63 : decode cX11_mend 63 = .ok (.aload_n 0, 1) := by decide +kernel
theorem dX11_mend_64 : decode cX11_mend 64 = .ok (.getfield 28, 3) := by decide +kernel
theorem dX11_mend_67 : decode cX11_mend 67 = .ok (.iload_n 1, 1) := by decide +kernel
theorem dX11_mend_68 : decode cX11_mend 68 = .ok (.iconst 1, 1) := by decide +kernel
theorem dX11_mend_69 : decode cX11_mend 69 = .ok (.isub, 1) := by decide +kernel
theorem dX11_mend_70 : decode cX11_mend 70 = .ok (.invokevirtual 120, 3) := by decide +kernel
theorem dX11_mend_73 : decode cX11_mend 73 = .ok (.aload_n 0, 1) := by decide +kernel
theorem dX11_mend_74 : decode cX11_mend 74 = .ok (.getfield 28, 3) := by decide +kernel
theorem dX11_mend_77 : decode cX11_mend 77 = .ok (.iload_n 1, 1) := by decide +kernel
theorem dX11_mend_78 : decode cX11_mend 78 = .ok (.iconst 1, 1) := by decide +kernel
theorem dX11_mend_79 : decode cX11_mend 79 = .ok (.iadd, 1) := by decide +kernel
theorem dX11_mend_80 : decode cX11_mend 80 = .ok (.invokevirtual 120, 3) := by decide +kernel
theorem dX11_mend_83 : decode cX11_mend 83 = .ok (.iadd, 1) := by decide +kernel
theorem dX11_mend_84 : decode cX11_mend 84 = .ok (.iconst 2, 1) := by decide +kernel
theorem dX11_mend_85 : decode cX11_mend 85 = .ok (.invokestatic 142, 3) := by decide +kernel
theorem dX11_mend_88 : decode cX11_mend 88 = .ok (.istore_n 2, 1) := by decide +kernel
theorem dX11_mend_89 : decode cX11_mend 89 = .ok (.aload_n 0, 1) := by decide +kernel
theorem dX11_mend_90 : decode cX11_mend 90 = .ok (.getfield 28, 3) := by decide +kernel
theorem dX11_mend_93 : decode cX11_mend 93 = .ok (.iload_n 1, 1) := by decide +kernel
theorem dX11_mend_94 : decode cX11_mend 94 = .ok (.iload_n 2, 1) := by decide +kernel
theorem dX11_mend_95 : decode cX11_mend 95 = .ok (.invokevirtual 147, 3) := by decide +kernel
theorem dX11_mend_98 : decode cX11_mend 98 = .ok (.aload_n 0, 1) := by decide +kernel
theorem dX11_mend_99 : decode cX11_mend 99 = .ok (.getfield 49, 3) := by decide +kernel
theorem dX11_mend_102 : decode cX11_mend 102 = .ok (.iconst 1, 1) := by decide +kernel
theorem dX11_mend_103 : decode cX11_mend 103 = .ok (.iload_n 1, 1) := by decide +kernel
theorem dX11_mend_104 : decode cX11_mend 104 = .ok (.iconst 0, 1) := by decide +kernel
theorem dX11_mend_105 : decode cX11_mend 105 = .ok (.invokevirtual 134, 3) := by decide +kernel
theorem dX11_mend_108 : decode cX11_mend 108 = .ok (.iload_n 2, 1) := by decide +kernel
theorem dX11_mend_109 : decode cX11_mend 109 = .ok (.ireturn, 1) := by decide +kernel
set_option maxRecDepth 20000 in
theorem ggX11_drop_X6_cutFirst : GoodIn wsX11_drop wsX6_cutFirst := goodIn_r _ [7, 8, 9, 34, 35, 36] (by decide +kernel) (by decide +kernel)
set_option maxRecDepth 20000 in
theorem gX11_drop_X6_cutFirst : GoodIn wsX11_drop (wsV RX11 151 RX6 yX6_cutFirst wsX6_cutFirst) := goodIn_app (goodIn_of _ (by decide +kernel)) ggX11_drop_X6_cutFirst
set_option maxRecDepth 20000 in
theorem ggX11_drop_X3_note : GoodIn wsX11_drop wsX3_note := goodIn_r _ [14, 15, 16, 17, 18, 19, 20, 21, 22, 23, 37, 38, 39, 40, 41] (by decide +kernel) (by decide +kernel)
set_option maxRecDepth 20000 in
theorem gX11_drop_X3_note : GoodIn wsX11_drop (wsV RX11 134 RX3 yX3_note wsX3_note) := goodIn_app (goodIn_of _ (by decide +kernel)) ggX11_drop_X3_note
theorem dX11_drop_0 : decode cX11_drop 0 = .ok (.aload_n 0, 1) := by decide +kernel
theorem dX11_drop_1 : decode cX11_drop 1 = .ok (.getfield 28, 3) := by decide +kernel
theorem dX11_drop_4 : decode cX11_drop 4 = .ok (.iload_n 1, 1) := by decide +kernel
theorem dX11_drop_5 : decode cX11_drop 5 = .ok (.invokevirtual 151, 3) := by decide +kernel
theorem dX11_drop_8 : decode cX11_drop 8 = .ok (.ifCond .ne 5, 3) := by decide +kernel
theorem dX11_drop_11 : decode cX11_drop 11 = .ok (.iconst 0, 1) := by decide +kernel
theorem dX11_drop_12 : decode cX11_drop 12 = .ok (.ireturn, 1) := by decide +kernel
theorem dX11_drop_13 : decode cX11_drop 13 = .ok (.aload_n 0, 1) := by decide +kernel
theorem dX11_drop_14 : decode cX11_drop 14 = .ok (.getfield 49, 3) := by decide +kernel
theorem dX11_drop_17 : decode cX11_drop 17 = .ok (.iconst 2, 1) := by decide +kernel
theorem dX11_drop_18 : decode cX11_drop 18 = .ok (.iload_n 1, 1) := by decide +kernel
theorem dX11_drop_19 : decode cX11_drop 19 = .ok (.iconst 0, 1) := by decide +kernel
theorem dX11_drop_20 : decode cX11_drop 20 = .ok (.invokevirtual 134, 3) := by decide +kernel
theorem dX11_drop_23 : decode cX11_drop 23 = .ok (.iconst 1, 1) := by decide +kernel
theorem dX11_drop_24 : decode cX11_drop 24 = .ok (.ireturn, 1) := by decide +kernel
set_option maxRecDepth 20000 in
theorem ggX11_set_X7_valueOf : GoodIn wsX11_set wsX7_valueOf := goodIn_r _ [7, 8, 42] (by decide +kernel) (by decide +kernel)
set_option maxRecDepth 20000 in
theorem gX11_set_X7_valueOf : GoodIn wsX11_set (wsV RX11 154 RX7 yX7_valueOf wsX7_valueOf) := goodIn_app (goodIn_of _ (by decide +kernel)) ggX11_set_X7_valueOf
set_option maxRecDepth 20000 in
theorem ggX11_set_X7_allows : GoodIn wsX11_set wsX7_allows := goodIn_r _ [11, 12, 13] (by decide +kernel) (by decide +kernel)
set_option maxRecDepth 20000 in
theorem gX11_set_X7_allows : GoodIn wsX11_set (va_wsS RX11 157 yX7_allows wsX7_allows) := goodIn_app (goodIn_of _ (by decide +kernel)) ggX11_set_X7_allows
set_option maxRecDepth 20000 in
theorem ggX11_set_X7_put : GoodIn wsX11_set wsX7_put := goodIn_r _ [17, 8, 42] (by decide +kernel) (by decide +kernel)
set_option maxRecDepth 20000 in
theorem gX11_set_X7_put : GoodIn wsX11_set (wsV RX11 161 RX7 yX7_put wsX7_put) := goodIn_app (goodIn_of _ (by decide +kernel)) ggX11_set_X7_put
set_option maxRecDepth 20000 in
theorem ggX11_set_X3_note : GoodIn wsX11_set wsX3_note := goodIn_r _ [22, 23, 24, 25, 26, 27, 28, 29, 30, 31, 43, 44, 45, 46, 47] (by decide +kernel) (by decide +kernel)
set_option maxRecDepth 20000 in
theorem gX11_set_X3_note : GoodIn wsX11_set (wsV RX11 134 RX3 yX3_note wsX3_note) := goodIn_app (goodIn_of _ (by decide +kernel)) ggX11_set_X3_note
theorem dX11_set_0 : decode cX11_set 0 = .ok (.aload_n 0, 1) := by decide +kernel
theorem dX11_set_1 : decode cX11_set 1 = .ok (.getfield 42, 3) := by decide +kernel
theorem dX11_set_4 : decode cX11_set 4 = .ok (.iload_n 1, 1) := by decide +kernel
theorem dX11_set_5 : decode cX11_set 5 = .ok (.invokevirtual 154, 3) := by decide +kernel
theorem dX11_set_8 : decode cX11_set 8 = .ok (.istore_n 3, 1) := by decide +kernel
theorem dX11_set_9 : decode cX11_set 9 = .ok (.iload_n 1, 1) := by decide +kernel
theorem dX11_set_10 : decode cX11_set 10 = .ok (.iload_n 2, 1) := by decide +kernel
theorem dX11_set_11 : decode cX11_set 11 = .ok (.invokestatic 157, 3) := by decide +kernel
theorem dX11_set_14 : decode cX11_set 14 = .ok (.ifCond .eq 8, 3) := by decide +kernel
theorem dX11_set_17 : decode cX11_set 17 = .ok (.iload_n 3, 1) := by decide +kernel
theorem dX11_set_18 : decode cX11_set 18 = .ok (.iload_n 2, 1) := by decide +kernel
theorem dX11_set_19 : decode cX11_set 19 = .ok (.if_icmp .ne 5, 3) := by decide +kernel
theorem dX11_set_22 : decode cX11_set 22 = .ok (.iconst 0, 1) := by decide +kernel
theorem dX11_set_23 : decode cX11_set 23 = .ok (.ireturn, 1) := by decide +kernel
theorem dX11_set_24 : decode cX11_set 24 = .ok (.aload_n 0, 1) := by decide +kernel
theorem dX11_set_25 : decode cX11_set 25 = .ok (.getfield 42, 3) := by decide +kernel
theorem dX11_set_28 : decode cX11_set 28 = .ok (.iload_n 1, 1) := by decide +kernel
theorem dX11_set_29 : decode cX11_set 29 = .ok (.iload_n 2, 1) := by decide +kernel
theorem dX11_set_30 : decode cX11_set 30 = .ok (.invokevirtual 161, 3) := by decide +kernel
theorem dX11_set_33 : decode cX11_set 33 = .ok (.aload_n 0, 1) := by decide +kernel
theorem dX11_set_34 : decode cX11_set 34 = .ok (.getfield 49, 3) := by decide +kernel
theorem dX11_set_37 : decode cX11_set 37 = .ok (.iconst 3, 1) := by decide +kernel
theorem dX11_set_38 : decode cX11_set 38 = .ok (.iload_n 1, 1) := by decide +kernel
theorem dX11_set_39 : decode cX11_set 39 = .ok (.iload_n 3, 1) := by decide +kernel
theorem dX11_set_40 : decode cX11_set 40 = .ok (.invokevirtual 134, 3) := by decide +kernel
theorem dX11_set_43 : decode cX11_set 43 = .ok (.iconst 1, 1) := by decide +kernel
theorem dX11_set_44 : decode cX11_set 44 = .ok (.ireturn, 1) := by decide +kernel
set_option maxRecDepth 20000 in
theorem ggX11_undo_X3_stepBack : GoodIn wsX11_undo wsX3_stepBack := goodIn_r _ [8, 9, 10, 61, 62, 63, 64, 65] (by decide +kernel) (by decide +kernel)
set_option maxRecDepth 20000 in
theorem gX11_undo_X3_stepBack : GoodIn wsX11_undo (wsV RX11 164 RX3 yX3_stepBack wsX3_stepBack) := goodIn_app (goodIn_of _ (by decide +kernel)) ggX11_undo_X3_stepBack
set_option maxRecDepth 20000 in
theorem ggX11_undo_X3_firstOfStep : GoodIn wsX11_undo wsX3_firstOfStep := goodIn_r _ [14, 15, 10, 16, 17, 7, 18, 61, 62, 63, 64, 65] (by decide +kernel) (by decide +kernel)
set_option maxRecDepth 20000 in
theorem gX11_undo_X3_firstOfStep : GoodIn wsX11_undo (wsV RX11 168 RX3 yX3_firstOfStep wsX3_firstOfStep) := goodIn_app (goodIn_of _ (by decide +kernel)) ggX11_undo_X3_firstOfStep
set_option maxRecDepth 20000 in
theorem ggX11_undo_X3_kindOfStep : GoodIn wsX11_undo wsX3_kindOfStep := goodIn_r _ [22, 23, 10, 16, 17, 7, 18, 61, 62, 63, 64, 65] (by decide +kernel) (by decide +kernel)
set_option maxRecDepth 20000 in
theorem gX11_undo_X3_kindOfStep : GoodIn wsX11_undo (wsV RX11 171 RX3 yX3_kindOfStep wsX3_kindOfStep) := goodIn_app (goodIn_of _ (by decide +kernel)) ggX11_undo_X3_kindOfStep
set_option maxRecDepth 20000 in
theorem ggX11_undo_X6_cutLast : GoodIn wsX11_undo wsX6_cutLast := goodIn_r _ [28, 29, 66, 67, 68] (by decide +kernel) (by decide +kernel)
set_option maxRecDepth 20000 in
theorem gX11_undo_X6_cutLast : GoodIn wsX11_undo (wsV RX11 174 RX6 yX6_cutLast wsX6_cutLast) := goodIn_app (goodIn_of _ (by decide +kernel)) ggX11_undo_X6_cutLast
set_option maxRecDepth 20000 in
theorem ggX11_undo_X6_putAt : GoodIn wsX11_undo wsX6_putAt := goodIn_r _ [33, 29, 34, 35, 66, 67, 68] (by decide +kernel) (by decide +kernel)
set_option maxRecDepth 20000 in
theorem gX11_undo_X6_putAt : GoodIn wsX11_undo (wsV RX11 147 RX6 yX6_putAt wsX6_putAt) := goodIn_app (goodIn_of _ (by decide +kernel)) ggX11_undo_X6_putAt
set_option maxRecDepth 20000 in
theorem ggX11_undo_X6_bringBackFirst : GoodIn wsX11_undo wsX6_bringBackFirst := goodIn_r _ [39, 29, 35, 66, 67, 68] (by decide +kernel) (by decide +kernel)
set_option maxRecDepth 20000 in
theorem gX11_undo_X6_bringBackFirst : GoodIn wsX11_undo (wsV RX11 177 RX6 yX6_bringBackFirst wsX6_bringBackFirst) := goodIn_app (goodIn_of _ (by decide +kernel)) ggX11_undo_X6_bringBackFirst
set_option maxRecDepth 20000 in
theorem ggX11_undo_X3_secondOfStep : GoodIn wsX11_undo wsX3_secondOfStep := goodIn_r _ [43, 44, 10, 16, 17, 7, 18, 61, 62, 63, 64, 65] (by decide +kernel) (by decide +kernel)
set_option maxRecDepth 20000 in
theorem gX11_undo_X3_secondOfStep : GoodIn wsX11_undo (wsV RX11 180 RX3 yX3_secondOfStep wsX3_secondOfStep) := goodIn_app (goodIn_of _ (by decide +kernel)) ggX11_undo_X3_secondOfStep
set_option maxRecDepth 20000 in
theorem ggX11_undo_X7_put : GoodIn wsX11_undo wsX7_put := goodIn_r _ [49, 50, 69] (by decide +kernel) (by decide +kernel)
set_option maxRecDepth 20000 in
theorem gX11_undo_X7_put : GoodIn wsX11_undo (wsV RX11 161 RX7 yX7_put wsX7_put) := goodIn_app (goodIn_of _ (by decide +kernel)) ggX11_undo_X7_put
theorem dX11_undo_0 : decode cX11_undo 0 = .ok (.aload_n 0, 1) := by decide +kernel
theorem dX11_undo_1 : decode cX11_undo 1 = .ok (.getfield 49, 3) := by decide +kernel
theorem dX11_undo_4 : decode cX11_undo 4 = .ok (.invokevirtual 164, 3) := by decide +kernel
theorem dX11_undo_7 : decode cX11_undo 7 = .ok (.ifCond .ne 5, 3) := by decide +kernel
theorem dX11_undo_10 : decode cX11_undo 10 = .ok (.iconst 0, 1) := by decide +kernel
theorem dX11_undo_11 : decode cX11_undo 11 = .ok (.ireturn, 1) := by decide +kernel
theorem dX11_undo_12 : decode cX11_undo 12 = .ok (.aload_n 0, 1) := by decide +kernel
theorem dX11_undo_13 : decode cX11_undo 13 = .ok (.getfield 49, 3) := by decide +kernel
theorem dX11_undo_16 : decode cX11_undo 16 = .ok (.invokevirtual 168, 3) := by decide +kernel
theorem dX11_undo_19 : decode cX11_undo 19 = .ok (.istore_n 1, 1) := by decide +kernel
theorem dX11_undo_20 : decode cX11_undo 20 = .ok (.aload_n 0, 1) := by decide +kernel
theorem dX11_undo_21 : decode cX11_undo 21 = .ok (.getfield 49, 3) := by decide +kernel
theorem dX11_undo_24 : decode cX11_undo 24 = .ok (.invokevirtual 171, 3) := by decide +kernel
theorem dX11_undo_27 : decode cX11_undo 27 = .ok (.tableswitch 60 0 2 #[25, 35, 49], 25) := by decide +kernel
theorem dX11_undo_52 : decode cX11_undo 52 = .ok (.aload_n 0, 1) := by decide +kernel
theorem dX11_undo_53 : decode cX11_undo 53 = .ok (.getfield 28, 3) := by decide +kernel
theorem dX11_undo_56 : decode cX11_undo 56 = .ok (.invokevirtual 174, 3) := by decide +kernel
theorem dX11_undo_59 : decode cX11_undo 59 = .ok (.goto 43, 3) := by decide +kernel
theorem dX11_undo_62 : decode cX11_undo 62 = .ok (.aload_n 0, 1) := by decide +kernel
theorem dX11_undo_63 : decode cX11_undo 63 = .ok (.getfield 28, 3) := by decide +kernel
theorem dX11_undo_66 : decode cX11_undo 66 = .ok (.iload_n 1, 1) := by decide +kernel
theorem dX11_undo_67 : decode cX11_undo 67 = .ok (.sipush (-1000), 3) := by decide +kernel
theorem dX11_undo_70 : decode cX11_undo 70 = .ok (.invokevirtual 147, 3) := by decide +kernel
theorem dX11_undo_73 : decode cX11_undo 73 = .ok (.goto 29, 3) := by decide +kernel
theorem dX11_undo_76 : decode cX11_undo 76 = .ok (.aload_n 0, 1) := by decide +kernel
theorem dX11_undo_77 : decode cX11_undo 77 = .ok (.getfield 28, 3) := by decide +kernel
theorem dX11_undo_80 : decode cX11_undo 80 = .ok (.iload_n 1, 1) := by decide +kernel
theorem dX11_undo_81 : decode cX11_undo 81 = .ok (.invokevirtual 177, 3) := by decide +kernel
theorem dX11_undo_84 : decode cX11_undo 84 = .ok (.goto 18, 3) := by decide +kernel
theorem dX11_undo_87 : decode cX11_undo 87 = .ok (.aload_n 0, 1) := by decide +kernel
theorem dX11_undo_88 : decode cX11_undo 88 = .ok (.getfield 42, 3) := by decide +kernel
theorem dX11_undo_91 : decode cX11_undo 91 = .ok (.iload_n 1, 1) := by decide +kernel
theorem dX11_undo_92 : decode cX11_undo 92 = .ok (.aload_n 0, 1) := by decide +kernel
theorem dX11_undo_93 : decode cX11_undo 93 = .ok (.getfield 49, 3) := by decide +kernel
theorem dX11_undo_96 : decode cX11_undo 96 = .ok (.invokevirtual 180, 3) := by decide +kernel
theorem dX11_undo_99 : decode cX11_undo 99 = .ok (.invokevirtual 161, 3) := by decide +kernel
theorem dX11_undo_102 : decode cX11_undo 102 = .ok (.iconst 1, 1) := by decide +kernel
theorem dX11_undo_103 : decode cX11_undo 103 = .ok (.ireturn, 1) := by decide +kernel
set_option maxRecDepth 20000 in
theorem ggX11_window_X6_hasWindow : GoodIn wsX11_window wsX6_hasWindow := goodIn_r _ [7, 8, 9, 10, 11, 6, 12, 13, 14, 15, 16, 17, 18, 49, 50, 51] (by decide +kernel) (by decide +kernel)
set_option maxRecDepth 20000 in
theorem gX11_window_X6_hasWindow : GoodIn wsX11_window (wsV RX11 183 RX6 yX6_hasWindow wsX6_hasWindow) := goodIn_app (goodIn_of _ (by decide +kernel)) ggX11_window_X6_hasWindow
set_option maxRecDepth 20000 in
theorem ggX11_window_X6_sumOf : GoodIn wsX11_window wsX6_sumOf := goodIn_r _ [22, 9, 10, 11, 6, 12, 13, 14, 15, 16, 8, 17, 18, 49, 50, 51] (by decide +kernel) (by decide +kernel)
set_option maxRecDepth 20000 in
theorem gX11_window_X6_sumOf : GoodIn wsX11_window (wsV RX11 187 RX6 yX6_sumOf wsX6_sumOf) := goodIn_app (goodIn_of _ (by decide +kernel)) ggX11_window_X6_sumOf
set_option maxRecDepth 20000 in
theorem ggX11_window_X6_leastOf : GoodIn wsX11_window wsX6_leastOf := goodIn_r _ [26, 13, 14, 15, 6, 16, 8, 17, 18, 49, 50, 51] (by decide +kernel) (by decide +kernel)
set_option maxRecDepth 20000 in
theorem gX11_window_X6_leastOf : GoodIn wsX11_window (wsV RX11 190 RX6 yX6_leastOf wsX6_leastOf) := goodIn_app (goodIn_of _ (by decide +kernel)) ggX11_window_X6_leastOf
set_option maxRecDepth 20000 in
theorem ggX11_window_X6_greatestOf : GoodIn wsX11_window wsX6_greatestOf := goodIn_r _ [30, 31, 32, 33, 34, 13, 14, 15, 6, 16, 8, 17, 18, 49, 50, 51] (by decide +kernel) (by decide +kernel)
set_option maxRecDepth 20000 in
theorem gX11_window_X6_greatestOf : GoodIn wsX11_window (wsV RX11 193 RX6 yX6_greatestOf wsX6_greatestOf) := goodIn_app (goodIn_of _ (by decide +kernel)) ggX11_window_X6_greatestOf
set_option maxRecDepth 20000 in
theorem ggX11_window_J9_floorDiv_7cf53 : GoodIn wsX11_window wsJ9_floorDiv_7cf53 := goodIn_r _ [38] (by decide +kernel) (by decide +kernel)
set_option maxRecDepth 20000 in
theorem gX11_window_J9_floorDiv_7cf53 : GoodIn wsX11_window (va_wsS RX11 142 yJ9_floorDiv_7cf53 wsJ9_floorDiv_7cf53) := goodIn_app (goodIn_of _ (by decide +kernel)) ggX11_window_J9_floorDiv_7cf53
theorem dX11_window_0 : decode cX11_window 0 = .ok (.iload_n 2, 1) := by decide +kernel
theorem dX11_window_1 : decode cX11_window 1 = .ok (.iconst 1, 1) := by decide +kernel
theorem dX11_window_2 : decode cX11_window 2 = .ok (.if_icmp .lt 15, 3) := by decide +kernel
theorem dX11_window_5 : decode cX11_window 5 = .ok (.aload_n 0, 1) := by decide +kernel
theorem dX11_window_6 : decode cX11_window 6 = .ok (.getfield 28, 3) := by decide +kernel
theorem dX11_window_9 : decode cX11_window 9 = .ok (.iload_n 1, 1) := by decide +kernel
theorem dX11_window_10 : decode cX11_window 10 = .ok (.iload_n 2, 1) := by decide +kernel
theorem dX11_window_11 : decode cX11_window 11 = .ok (.invokevirtual 183, 3) := by decide +kernel
theorem dX11_window_14 : decode cX11_window 14 = .ok (.ifCond .ne 6, 3) := by decide +kernel
theorem dX11_window_17 : decode cX11_window 17 = .ok (.ldc 186, 2) := by decide +kernel
theorem dX11_window_19 : decode cX11_window 19 = .ok (.ireturn, 1) := by decide +kernel
theorem dX11_window_20 : decode cX11_window 20 = .ok (.iload_n 3, 1) := by decide +kernel
theorem dX11_window_21 : decode cX11_window 21 = .ok (.tableswitch 75 0 3 #[31, 41, 51, 61], 31) := by decide +kernel
theorem dX11_window_52 : decode cX11_window 52 = .ok (.aload_n 0, 1) := by decide +kernel
theorem dX11_window_53 : decode cX11_window 53 = .ok (.getfield 28, 3) := by decide +kernel
theorem dX11_window_56 : decode cX11_window 56 = .ok (.iload_n 1, 1) := by decide +kernel
theorem dX11_window_57 : decode cX11_window 57 = .ok (.iload_n 2, 1) := by decide +kernel
theorem dX11_window_58 : decode cX11_window 58 = .ok (.invokevirtual 187, 3) := by decide +kernel
theorem dX11_window_61 : decode cX11_window 61 = .ok (.ireturn, 1) := by decide +kernel
theorem dX11_window_62 : decode cX11_window 62 = .ok (.aload_n 0, 1) := by decide +kernel
theorem dX11_window_63 : decode cX11_window 63 = .ok (.getfield 28, 3) := by decide +kernel
theorem dX11_window_66 : decode cX11_window 66 = .ok (.iload_n 1, 1) := by decide +kernel
theorem dX11_window_67 : decode cX11_window 67 = .ok (.iload_n 2, 1) := by decide +kernel
theorem dX11_window_68 : decode cX11_window 68 = .ok (.invokevirtual 190, 3) := by decide +kernel
theorem dX11_window_71 : decode cX11_window 71 = .ok (.ireturn, 1) := by decide +kernel
theorem dX11_window_72 : decode cX11_window 72 = .ok (.aload_n 0, 1) := by decide +kernel
theorem dX11_window_73 : decode cX11_window 73 = .ok (.getfield 28, 3) := by decide +kernel
theorem dX11_window_76 : decode cX11_window 76 = .ok (.iload_n 1, 1) := by decide +kernel
theorem dX11_window_77 : decode cX11_window 77 = .ok (.iload_n 2, 1) := by decide +kernel
theorem dX11_window_78 : decode cX11_window 78 = .ok (.invokevirtual 193, 3) := by decide +kernel
theorem dX11_window_81 : decode cX11_window 81 = .ok (.ireturn, 1) := by decide +kernel
theorem dX11_window_82 : decode cX11_window 82 = .ok (.aload_n 0, 1) := by decide +kernel
theorem dX11_window_83 : decode cX11_window 83 = .ok (.getfield 28, 3) := by decide +kernel
theorem dX11_window_86 : decode cX11_window 86 = .ok (.iload_n 1, 1) := by decide +kernel
theorem dX11_window_87 : decode cX11_window 87 = .ok (.iload_n 2, 1) := by decide +kernel
theorem dX11_window_88 : decode cX11_window 88 = .ok (.invokevirtual 187, 3) := by decide +kernel
theorem dX11_window_91 : decode cX11_window 91 = .ok (.iload_n 2, 1) := by decide +kernel
