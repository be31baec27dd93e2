theorem dX11_window_92 : decode cX11_window 92 = .ok (.invokestatic 142, 3) := by decide +kernel
theorem dX11_window_95 : decode cX11_window 95 = .ok (.ireturn, 1) := by decide +kernel
theorem dX11_window_96 : decode cX11_window 96 = .ok (.ldc 186, 2) := by decide +kernel
theorem dX11_window_98 : decode cX11_window 98 = .ok (.ireturn, 1) := by decide +kernel
set_option maxRecDepth 20000 in
theorem ggX11_level_X11_isStretch : GoodIn wsX11_level wsX11_isStretch := goodIn_r _ [9] (by decide +kernel) (by decide +kernel)
set_option maxRecDepth 20000 in
theorem gX11_level_X11_isStretch : GoodIn wsX11_level (va_wsS RX11 196 yX11_isStretch wsX11_isStretch) := goodIn_app (goodIn_of _ (by decide +kernel)) ggX11_level_X11_isStretch
set_option maxRecDepth 20000 in
theorem ggX11_level_X6_hasWindow : GoodIn wsX11_level wsX6_hasWindow := goodIn_r _ [14, 15, 16, 17, 18, 13, 19, 20, 21, 22, 23, 24, 25, 110, 111, 112] (by decide +kernel) (by decide +kernel)
set_option maxRecDepth 20000 in
theorem gX11_level_X6_hasWindow : GoodIn wsX11_level (wsV RX11 183 RX6 yX6_hasWindow wsX6_hasWindow) := goodIn_app (goodIn_of _ (by decide +kernel)) ggX11_level_X6_hasWindow
set_option maxRecDepth 20000 in
theorem ggX11_level_X0_openWindow : GoodIn wsX11_level wsX0_openWindow := goodIn_r _ [30, 31, 32, 33, 34, 35, 36, 37, 38, 39, 40, 41, 42, 43, 44, 29, 45, 46, 47, 48, 49, 50, 51, 52, 53, 54, 55, 56, 57, 58, 59, 60, 61, 62, 63, 13, 64, 20, 21, 22, 23, 15, 24, 25, 65, 66, 67, 68, 69, 70, 71, 72, 73, 74, 75, 76, 77, 78, 79, 80, 81, 82, 83, 84, 95, 96, 97, 98, 99, 100, 101, 102, 103, 104, 105, 106, 107, 108, 109, 113, 110, 111, 112] (by decide +kernel) (by decide +kernel)
set_option maxRecDepth 20000 in
theorem gX11_level_X0_openWindow : GoodIn wsX11_level (wsV RX11 199 RX0 yX0_openWindow wsX0_openWindow) := goodIn_app (goodIn_of _ (by decide +kernel)) ggX11_level_X0_openWindow
theorem dX11_level_0 : decode cX11_level 0 = .ok (.iload_n 2, 1) := by decide +kernel
theorem dX11_level_1 : decode cX11_level 1 = .ok (.invokestatic 196, 3) := by decide +kernel
theorem dX11_level_4 : decode cX11_level 4 = .ok (.ifCond .eq 24, 3) := by decide +kernel
theorem dX11_level_7 : decode cX11_level 7 = .ok (.iload_n 3, 1) := by decide +kernel
theorem dX11_level_8 : decode cX11_level 8 = .ok (.ifCond .lt 20, 3) := by decide +kernel
theorem dX11_level_11 : decode cX11_level 11 = .ok (.iload_n 3, 1) := by decide +kernel
theorem dX11_level_12 : decode cX11_level 12 = .ok (.iload_n 2, 1) := by decide +kernel
theorem dX11_level_13 : decode cX11_level 13 = .ok (.if_icmp .ge 15, 3) := by decide +kernel
theorem dX11_level_16 : decode cX11_level 16 = .ok (.aload_n 0, 1) := by decide +kernel
theorem dX11_level_17 : decode cX11_level 17 = .ok (.getfield 28, 3) := by decide +kernel
theorem dX11_level_20 : decode cX11_level 20 = .ok (.iload_n 1, 1) := by decide +kernel
theorem dX11_level_21 : decode cX11_level 21 = .ok (.iload_n 2, 1) := by decide +kernel
theorem dX11_level_22 : decode cX11_level 22 = .ok (.invokevirtual 183, 3) := by decide +kernel
theorem dX11_level_25 : decode cX11_level 25 = .ok (.ifCond .ne 6, 3) := by decide +kernel
theorem dX11_level_28 : decode cX11_level 28 = .ok (.ldc 186, 2) := by decide +kernel
theorem dX11_level_30 : decode cX11_level 30 = .ok (.ireturn, 1) := by decide +kernel
theorem dX11_level_31 : decode cX11_level 31 = .ok (.aload_n 0, 1) := by decide +kernel
theorem dX11_level_32 : decode cX11_level 32 = .ok (.getfield 65, 3) := by decide +kernel
theorem dX11_level_35 : decode cX11_level 35 = .ok (.iload_n 1, 1) := by decide +kernel
theorem dX11_level_36 : decode cX11_level 36 = .ok (.iload_n 2, 1) := by decide +kernel
theorem dX11_level_37 : decode cX11_level 37 = .ok (.invokevirtual 199, 3) := by decide +kernel
theorem dX11_level_40 : decode cX11_level 40 = .ok (.aload_n 0, 1) := by decide +kernel
theorem dX11_level_41 : decode cX11_level 41 = .ok (.getfield 65, 3) := by decide +kernel
theorem dX11_level_44 : decode cX11_level 44 = .ok (.getfield 202, 3) := by decide +kernel
theorem dX11_level_47 : decode cX11_level 47 = .ok (.getfield 206, 3) := by decide +kernel
theorem dX11_level_50 : decode cX11_level 50 = .ok (.iload_n 3, 1) := by decide +kernel
theorem dX11_level_51 : decode cX11_level 51 = .ok (.iaload, 1) := by decide +kernel
theorem dX11_level_52 : decode cX11_level 52 = .ok (.ireturn, 1) := by decide +kernel
set_option maxRecDepth 20000 in
theorem ggX11_distance_X0_openBoth : GoodIn wsX11_distance wsX0_openBoth := goodIn_r _ [7, 8, 9, 10, 11, 6, 12, 13, 14, 15, 16, 17, 18, 19, 20, 21, 22, 23, 24, 25, 26, 27, 28, 29, 30, 31, 32, 33, 34, 35, 36, 37, 38, 39, 40, 41, 42, 43, 44, 45, 46, 47, 48, 49, 50, 51, 52, 53, 54, 55, 56, 57, 58, 59, 60, 61, 62, 63, 64, 65, 66, 67, 68, 69, 70, 71, 72, 73, 74, 75, 76, 77, 78, 79, 80, 81, 82, 83, 84, 85, 86, 87, 88, 89, 90, 91, 92, 93, 94, 95, 96, 97, 98, 99, 100, 101, 102, 103, 104, 105, 106, 107, 108, 109, 110, 111, 112, 113, 154, 155, 156, 157, 158, 159, 160, 161, 162, 163, 164, 165, 166, 167, 168, 169, 170, 171, 172, 173, 174, 175] (by decide +kernel) (by decide +kernel)
set_option maxRecDepth 20000 in
theorem gX11_distance_X0_openBoth : GoodIn wsX11_distance (wsV RX11 212 RX0 yX0_openBoth wsX0_openBoth) := goodIn_app (goodIn_of _ (by decide +kernel)) ggX11_distance_X0_openBoth
set_option maxRecDepth 20000 in
theorem ggX11_distance_X2_wholeDistance : GoodIn wsX11_distance wsX2_wholeDistance := goodIn_r _ [117, 118, 119, 120, 121, 63, 122, 123, 124, 72, 125, 126, 127, 128, 73, 69, 70, 67, 71, 65, 66, 68, 129, 130, 131, 132, 133, 134, 135, 74, 136, 137, 138, 139, 140, 141, 142, 143, 166, 167, 168, 169, 170, 171, 172, 173, 174, 175] (by decide +kernel) (by decide +kernel)
set_option maxRecDepth 20000 in
theorem gX11_distance_X2_wholeDistance : GoodIn wsX11_distance (wsV RX11 215 RX2 yX2_wholeDistance wsX2_wholeDistance) := goodIn_app (goodIn_of _ (by decide +kernel)) ggX11_distance_X2_wholeDistance
theorem dX11_distance_0 : decode cX11_distance 0 = .ok (.aload_n 0, 1) := by decide +kernel
theorem dX11_distance_1 : decode cX11_distance 1 = .ok (.getfield 65, 3) := by decide +kernel
theorem dX11_distance_4 : decode cX11_distance 4 = .ok (.iload_n 1, 1) := by decide +kernel
theorem dX11_distance_5 : decode cX11_distance 5 = .ok (.iload_n 2, 1) := by decide +kernel
theorem dX11_distance_6 : decode cX11_distance 6 = .ok (.invokevirtual 212, 3) := by decide +kernel
theorem dX11_distance_9 : decode cX11_distance 9 = .ok (.ifCond .eq 16, 3) := by decide +kernel
theorem dX11_distance_12 : decode cX11_distance 12 = .ok (.aload_n 0, 1) := by decide +kernel
theorem dX11_distance_13 : decode cX11_distance 13 = .ok (.getfield 65, 3) := by decide +kernel
theorem dX11_distance_16 : decode cX11_distance 16 = .ok (.getfield 202, 3) := by decide +kernel
theorem dX11_distance_19 : decode cX11_distance 19 = .ok (.invokevirtual 215, 3) := by decide +kernel
theorem dX11_distance_22 : decode cX11_distance 22 = .ok (.goto 4, 3) := by decide +kernel
theorem dX11_distance_25 : decode cX11_distance 25 = .ok (.iconst (-1), 1) := by decide +kernel
theorem dX11_distance_26 : decode cX11_distance 26 = .ok (.ireturn, 1) := by decide +kernel
set_option maxRecDepth 20000 in
theorem ggX11_bound_X0_openBoth : GoodIn wsX11_bound wsX0_openBoth := goodIn_r _ [7, 8, 9, 10, 11, 6, 12, 13, 14, 15, 16, 17, 18, 19, 20, 21, 22, 23, 24, 25, 26, 27, 28, 29, 30, 31, 32, 33, 34, 35, 36, 37, 38, 39, 40, 41, 42, 43, 44, 45, 46, 47, 48, 49, 50, 51, 52, 53, 54, 55, 56, 57, 58, 59, 60, 61, 62, 63, 64, 65, 66, 67, 68, 69, 70, 71, 72, 73, 74, 75, 76, 77, 78, 79, 80, 81, 82, 83, 84, 85, 86, 87, 88, 89, 90, 91, 92, 93, 94, 95, 96, 97, 98, 99, 100, 101, 102, 103, 104, 105, 106, 107, 108, 109, 110, 111, 112, 113, 150, 151, 152, 153, 154, 155, 156, 157, 158, 159, 160, 161, 162, 163, 164, 165, 166, 167, 168, 169, 170, 171] (by decide +kernel) (by decide +kernel)
set_option maxRecDepth 20000 in
theorem gX11_bound_X0_openBoth : GoodIn wsX11_bound (wsV RX11 212 RX0 yX0_openBoth wsX0_openBoth) := goodIn_app (goodIn_of _ (by decide +kernel)) ggX11_bound_X0_openBoth
set_option maxRecDepth 20000 in
theorem ggX11_bound_X2_endsBound : GoodIn wsX11_bound wsX2_endsBound := goodIn_r _ [117, 72, 118, 119, 120, 121, 122, 63, 123, 74, 162, 163, 164, 165, 166, 167, 168, 169, 170, 171] (by decide +kernel) (by decide +kernel)
set_option maxRecDepth 20000 in
theorem gX11_bound_X2_endsBound : GoodIn wsX11_bound (wsV RX11 218 RX2 yX2_endsBound wsX2_endsBound) := goodIn_app (goodIn_of _ (by decide +kernel)) ggX11_bound_X2_endsBound
set_option maxRecDepth 20000 in
theorem ggX11_bound_X2_overBound : GoodIn wsX11_bound wsX2_overBound := goodIn_r _ [127, 119, 118, 128, 129, 130, 63, 131, 72, 132, 133, 134, 135, 73, 69, 70, 67, 71, 65, 66, 68, 120, 121, 122, 123, 74, 162, 163, 164, 165, 166, 167, 168, 169, 170, 171] (by decide +kernel) (by decide +kernel)
set_option maxRecDepth 20000 in
theorem gX11_bound_X2_overBound : GoodIn wsX11_bound (wsV RX11 221 RX2 yX2_overBound wsX2_overBound) := goodIn_app (goodIn_of _ (by decide +kernel)) ggX11_bound_X2_overBound
set_option maxRecDepth 20000 in
theorem ggX11_bound_X2_backBound : GoodIn wsX11_bound wsX2_backBound := goodIn_r _ [139, 118, 119, 128, 129, 130, 63, 131, 72, 132, 133, 134, 135, 73, 69, 70, 67, 71, 65, 66, 68, 120, 121, 122, 123, 74, 162, 163, 164, 165, 166, 167, 168, 169, 170, 171] (by decide +kernel) (by decide +kernel)
set_option maxRecDepth 20000 in
theorem gX11_bound_X2_backBound : GoodIn wsX11_bound (wsV RX11 224 RX2 yX2_backBound wsX2_backBound) := goodIn_app (goodIn_of _ (by decide +kernel)) ggX11_bound_X2_backBound
theorem dX11_bound_0 : decode cX11_bound 0 = .ok (.aload_n 0, 1) := by decide +kernel
theorem dX11_bound_1 : decode cX11_bound 1 = .ok (.getfield 65, 3) := by decide +kernel
theorem dX11_bound_4 : decode cX11_bound 4 = .ok (.iload_n 1, 1) := by decide +kernel
theorem dX11_bound_5 : decode cX11_bound 5 = .ok (.iload_n 2, 1) := by decide +kernel
theorem dX11_bound_6 : decode cX11_bound 6 = .ok (.invokevirtual 212, 3) := by decide +kernel
theorem dX11_bound_9 : decode cX11_bound 9 = .ok (.ifCond .ne 5, 3) := by decide +kernel
theorem dX11_bound_12 : decode cX11_bound 12 = .ok (.iconst (-1), 1) := by decide +kernel
theorem dX11_bound_13 : decode cX11_bound 13 = .ok (.ireturn, 1) := by decide +kernel
theorem dX11_bound_14 : decode cX11_bound 14 = .ok (.iload_n 3, 1) := by decide +kernel
theorem dX11_bound_15 : decode cX11_bound 15 = .ok (.tableswitch 58 0 2 #[25, 36, 47], 25) := by decide +kernel
theorem dX11_bound_40 : decode cX11_bound 40 = .ok (.aload_n 0, 1) := by decide +kernel
theorem dX11_bound_41 : decode cX11_bound 41 = .ok (.getfield 65, 3) := by decide +kernel
theorem dX11_bound_44 : decode cX11_bound 44 = .ok (.getfield 202, 3) := by decide +kernel
theorem dX11_bound_47 : decode cX11_bound 47 = .ok (.invokevirtual 218, 3) := by decide +kernel
theorem dX11_bound_50 : decode cX11_bound 50 = .ok (.ireturn, 1) := by decide +kernel
theorem dX11_bound_51 : decode cX11_bound 51 = .ok (.aload_n 0, 1) := by decide +kernel
theorem dX11_bound_52 : decode cX11_bound 52 = .ok (.getfield 65, 3) := by decide +kernel
theorem dX11_bound_55 : decode cX11_bound 55 = .ok (.getfield 202, 3) := by decide +kernel
theorem dX11_bound_58 : decode cX11_bound 58 = .ok (.invokevirtual 221, 3) := by decide +kernel
theorem dX11_bound_61 : decode cX11_bound 61 = .ok (.ireturn, 1) := by decide +kernel
theorem dX11_bound_62 : decode cX11_bound 62 = .ok (.aload_n 0, 1) := by decide +kernel
theorem dX11_bound_63 : decode cX11_bound 63 = .ok (.getfield 65, 3) := by decide +kernel
theorem dX11_bound_66 : decode cX11_bound 66 = .ok (.getfield 202, 3) := by decide +kernel
theorem dX11_bound_69 : decode cX11_bound 69 = .ok (.invokevirtual 224, 3) := by decide +kernel
theorem dX11_bound_72 : decode cX11_bound 72 = .ok (.ireturn, 1) := by decide +kernel
theorem dX11_bound_73 : decode cX11_bound 73 = .ok (.iconst (-1), 1) := by decide +kernel
theorem dX11_bound_74 : decode cX11_bound 74 = .ok (.ireturn, 1) := by decide +kernel
set_option maxRecDepth 20000 in
theorem ggX11_look_X0_openBoth : GoodIn wsX11_look wsX0_openBoth := goodIn_r _ [9, 10, 11, 12, 13, 8, 14, 15, 16, 17, 18, 19, 20, 21, 22, 23, 24, 25, 26, 27, 28, 29, 30, 31, 32, 33, 34, 35, 36, 37, 38, 39, 40, 41, 42, 43, 44, 45, 46, 47, 48, 49, 50, 51, 52, 53, 54, 55, 56, 57, 58, 59, 60, 61, 62, 63, 64, 65, 66, 67, 68, 69, 70, 71, 72, 73, 74, 75, 76, 77, 78, 79, 80, 81, 82, 83, 84, 85, 86, 87, 88, 89, 90, 91, 92, 93, 94, 95, 96, 97, 98, 99, 100, 101, 102, 103, 104, 105, 106, 107, 108, 109, 110, 111, 112, 113, 114, 115, 168, 169, 170, 171, 172, 183, 184, 185, 186, 187, 188, 189, 173, 174, 175, 176, 177, 178, 179, 180, 181, 182] (by decide +kernel) (by decide +kernel)
set_option maxRecDepth 20000 in
theorem gX11_look_X0_openBoth : GoodIn wsX11_look (wsV RX11 212 RX0 yX0_openBoth wsX0_openBoth) := goodIn_app (goodIn_of _ (by decide +kernel)) ggX11_look_X0_openBoth
set_option maxRecDepth 20000 in
theorem ggX11_look_X2_lookAt : GoodIn wsX11_look wsX2_lookAt := goodIn_r _ [119, 120, 121, 122, 123, 124, 125, 126, 65, 127, 74, 128, 129, 130, 131, 76, 132, 133, 134, 135, 136, 137, 138, 139, 75, 71, 72, 69, 73, 67, 68, 70, 140, 141, 142, 143, 144, 145, 146, 147, 148, 149, 150, 151, 152, 153, 154, 155, 156, 157, 173, 174, 175, 176, 177, 178, 179, 180, 181, 182] (by decide +kernel) (by decide +kernel)
set_option maxRecDepth 20000 in
theorem gX11_look_X2_lookAt : GoodIn wsX11_look (wsV RX11 227 RX2 yX2_lookAt wsX2_lookAt) := goodIn_app (goodIn_of _ (by decide +kernel)) ggX11_look_X2_lookAt
theorem dX11_look_0 : decode cX11_look 0 = .ok (.iload_n 3, 1) := by decide +kernel
theorem dX11_look_1 : decode cX11_look 1 = .ok (.ifCond .lt 26, 3) := by decide +kernel
theorem dX11_look_4 : decode cX11_look 4 = .ok (.iload 4, 2) := by decide +kernel
theorem dX11_look_6 : decode cX11_look 6 = .ok (.ifCond .lt 21, 3) := by decide +kernel
theorem dX11_look_9 : decode cX11_look 9 = .ok (.iload 4, 2) := by decide +kernel
theorem dX11_look_11 : decode cX11_look 11 = .ok (.iconst 2, 1) := by decide +kernel
theorem dX11_look_12 : decode cX11_look 12 = .ok (.if_icmp .gt 15, 3) := by decide +kernel
theorem dX11_look_15 : decode cX11_look 15 = .ok (.aload_n 0, 1) := by decide +kernel
theorem dX11_look_16 : decode cX11_look 16 = .ok (.getfield 65, 3) := by decide +kernel
theorem dX11_look_19 : decode cX11_look 19 = .ok (.iload_n 1, 1) := by decide +kernel
theorem dX11_look_20 : decode cX11_look 20 = .ok (.iload_n 2, 1) := by decide +kernel
theorem dX11_look_21 : decode cX11_look 21 = .ok (.invokevirtual 212, 3) := by decide +kernel
theorem dX11_look_24 : decode cX11_look 24 = .ok (.ifCond .ne 5, 3) := by decide +kernel
theorem dX11_look_27 : decode cX11_look 27 = .ok (.iconst (-1), 1) := by decide +kernel
theorem dX11_look_28 : decode cX11_look 28 = .ok (.ireturn, 1) := by decide +kernel
theorem dX11_look_29 : decode cX11_look 29 = .ok (.aload_n 0, 1) := by decide +kernel
theorem dX11_look_30 : decode cX11_look 30 = .ok (.getfield 65, 3) := by decide +kernel
theorem dX11_look_33 : decode cX11_look 33 = .ok (.getfield 202, 3) := by decide +kernel
theorem dX11_look_36 : decode cX11_look 36 = .ok (.iload_n 3, 1) := by decide +kernel
theorem dX11_look_37 : decode cX11_look 37 = .ok (.invokevirtual 227, 3) := by decide +kernel
theorem dX11_look_40 : decode cX11_look 40 = .ok (.istore 5, 2) := by decide +kernel
theorem dX11_look_42 : decode cX11_look 42 = .ok (.iload 4, 2) := by decide +kernel
theorem dX11_look_44 : decode cX11_look 44 = .ok (.ifCond .ne 6, 3) := by decide +kernel
theorem dX11_look_47 : decode cX11_look 47 = .ok (.iload 5, 2) := by decide +kernel
theorem dX11_look_49 : decode cX11_look 49 = .ok (.ireturn, 1) := by decide +kernel
theorem dX11_look_50 : decode cX11_look 50 = .ok (.iload 4, 2) := by decide +kernel
theorem dX11_look_52 : decode cX11_look 52 = .ok (.iconst 1, 1) := by decide +kernel
theorem dX11_look_53 : decode cX11_look 53 = .ok (.if_icmp .ne 16, 3) := by decide +kernel
theorem dX11_look_56 : decode cX11_look 56 = .ok (.aload_n 0, 1) := by decide +kernel
theorem dX11_look_57 : decode cX11_look 57 = .ok (.getfield 65, 3) := by decide +kernel
theorem dX11_look_60 : decode cX11_look 60 = .ok (.getfield 202, 3) := by decide +kernel
theorem dX11_look_63 : decode cX11_look 63 = .ok (.getfield 230, 3) := by decide +kernel
theorem dX11_look_66 : decode cX11_look 66 = .ok (.goto 13, 3) := by decide +kernel
theorem dX11_look_69 : decode cX11_look 69 = .ok (.aload_n 0, 1) := by decide +kernel
theorem dX11_look_70 : decode cX11_look 70 = .ok (.getfield 65, 3) := by decide +kernel
theorem dX11_look_73 : decode cX11_look 73 = .ok (.getfield 202, 3) := by decide +kernel
theorem dX11_look_76 : decode cX11_look 76 = .ok (.getfield 233, 3) := by decide +kernel
theorem dX11_look_79 : decode cX11_look 79 = .ok (.ireturn, 1) := by decide +kernel
set_option maxRecDepth 20000 in
theorem ggX11_way_X0_openBoth : GoodIn wsX11_way wsX0_openBoth := goodIn_r _ [8, 9, 10, 11, 12, 7, 13, 14, 15, 16, 17, 18, 19, 20, 21, 22, 23, 24, 25, 26, 27, 28, 29, 30, 31, 32, 33, 34, 35, 36, 37, 38, 39, 40, 41, 42, 43, 44, 45, 46, 47, 48, 49, 50, 51, 52, 53, 54, 55, 56, 57, 58, 59, 60, 61, 62, 63, 64, 65, 66, 67, 68, 69, 70, 71, 72, 73, 74, 75, 76, 77, 78, 79, 80, 81, 82, 83, 84, 85, 86, 87, 88, 89, 90, 91, 92, 93, 94, 95, 96, 97, 98, 99, 100, 101, 102, 103, 104, 105, 106, 107, 108, 109, 110, 111, 112, 113, 114, 161, 162, 163, 164, 165, 176, 177, 178, 179, 180, 181, 182, 166, 167, 168, 169, 170, 171, 172, 173, 174, 175] (by decide +kernel) (by decide +kernel)
set_option maxRecDepth 20000 in
theorem gX11_way_X0_openBoth : GoodIn wsX11_way (wsV RX11 212 RX0 yX0_openBoth wsX0_openBoth) := goodIn_app (goodIn_of _ (by decide +kernel)) ggX11_way_X0_openBoth
set_option maxRecDepth 20000 in
theorem ggX11_way_X2_traceWay : GoodIn wsX11_way wsX2_traceWay := goodIn_r _ [118, 119, 120, 73, 121, 122, 123, 124, 64, 125, 126, 127, 128, 129, 130, 131, 74, 70, 71, 68, 72, 66, 67, 69, 132, 133, 134, 135, 136, 137, 138, 75, 139, 140, 141, 142, 143, 144, 145, 146, 166, 167, 168, 169, 170, 171, 172, 173, 174, 175] (by decide +kernel) (by decide +kernel)
set_option maxRecDepth 20000 in
theorem gX11_way_X2_traceWay : GoodIn wsX11_way (wsV RX11 236 RX2 yX2_traceWay wsX2_traceWay) := goodIn_app (goodIn_of _ (by decide +kernel)) ggX11_way_X2_traceWay
set_option maxRecDepth 20000 in
theorem ggX11_way_X2_wayPlace : GoodIn wsX11_way wsX2_wayPlace := goodIn_r _ [150, 120, 121, 166, 167, 168, 169, 170, 171, 172, 173, 174, 175] (by decide +kernel) (by decide +kernel)
set_option maxRecDepth 20000 in
theorem gX11_way_X2_wayPlace : GoodIn wsX11_way (wsV RX11 242 RX2 yX2_wayPlace wsX2_wayPlace) := goodIn_app (goodIn_of _ (by decide +kernel)) ggX11_way_X2_wayPlace
theorem dX11_way_0 : decode cX11_way 0 = .ok (.aload_n 0, 1) := by decide +kernel
theorem dX11_way_1 : decode cX11_way 1 = .ok (.getfield 65, 3) := by decide +kernel
theorem dX11_way_4 : decode cX11_way 4 = .ok (.iload_n 1, 1) := by decide +kernel
theorem dX11_way_5 : decode cX11_way 5 = .ok (.iload_n 2, 1) := by decide +kernel
theorem dX11_way_6 : decode cX11_way 6 = .ok (.invokevirtual 212, 3) := by decide +kernel
theorem dX11_way_9 : decode cX11_way 9 = .ok (.ifCond .ne 5, 3) := by decide +kernel
theorem dX11_way_12 : decode cX11_way 12 = .ok (.iconst (-1), 1) := by decide +kernel
theorem dX11_way_13 : decode cX11_way 13 = .ok (.ireturn, 1) := by decide +kernel
theorem dX11_way_14 : decode cX11_way 14 = .ok (.aload_n 0, 1) := by decide +kernel
theorem dX11_way_15 : decode cX11_way 15 = .ok (.getfield 65, 3) := by decide +kernel
theorem dX11_way_18 : decode cX11_way 18 = .ok (.getfield 202, 3) := by decide +kernel
theorem dX11_way_21 : decode cX11_way 21 = .ok (.invokevirtual 236, 3) := by decide +kernel
theorem dX11_way_24 : decode cX11_way 24 = .ok (.iload_n 3, 1) := by decide +kernel
theorem dX11_way_25 : decode cX11_way 25 = .ok (.iconst (-1), 1) := by decide +kernel
theorem dX11_way_26 : decode cX11_way 26 = .ok (.if_icmp .ne 16, 3) := by decide +kernel
theorem dX11_way_29 : decode cX11_way 29 = .ok (.aload_n 0, 1) := by decide +kernel
theorem dX11_way_30 : decode cX11_way 30 = .ok (.getfield 65, 3) := by decide +kernel
theorem dX11_way_33 : decode cX11_way 33 = .ok (.getfield 202, 3) := by decide +kernel
theorem dX11_way_36 : decode cX11_way 36 = .ok (.getfield 239, 3) := by decide +kernel
theorem dX11_way_39 : decode cX11_way 39 = .ok (.goto 14, 3) := by decide +kernel
theorem dX11_way_42 : decode cX11_way 42 = .ok (.aload_n 0, 1) := by decide +kernel
theorem dX11_way_43 : decode cX11_way 43 = .ok (.getfield 65, 3) := by decide +kernel
theorem dX11_way_46 : decode cX11_way 46 = .ok (.getfield 202, 3) := by decide +kernel
theorem dX11_way_49 : decode cX11_way 49 = .ok (.iload_n 3, 1) := by decide +kernel
theorem dX11_way_50 : decode cX11_way 50 = .ok (.invokevirtual 242, 3) := by decide +kernel
theorem dX11_way_53 : decode cX11_way 53 = .ok (.ireturn, 1) := by decide +kernel
set_option maxRecDepth 20000 in
theorem ggX11_lean_X0_openBoth : GoodIn wsX11_lean wsX0_openBoth := goodIn_r _ [7, 8, 9, 10, 11, 6, 12, 13, 14, 15, 16, 17, 18, 19, 20, 21, 22, 23, 24, 25, 26, 27, 28, 29, 30, 31, 32, 33, 34, 35, 36, 37, 38, 39, 40, 41, 42, 43, 44, 45, 46, 47, 48, 49, 50, 51, 52, 53, 54, 55, 56, 57, 58, 59, 60, 61, 62, 63, 64, 65, 66, 67, 68, 69, 70, 71, 72, 73, 74, 75, 76, 77, 78, 79, 80, 81, 82, 83, 84, 85, 86, 87, 88, 89, 90, 91, 92, 93, 94, 95, 96, 97, 98, 99, 100, 101, 102, 103, 104, 105, 106, 107, 108, 109, 110, 111, 112, 113, 171, 172, 173, 174, 175, 176, 177, 178, 179, 180, 181, 182, 183, 184, 185, 186, 187, 188, 189, 190, 191, 192] (by decide +kernel) (by decide +kernel)
set_option maxRecDepth 20000 in
theorem gX11_lean_X0_openBoth : GoodIn wsX11_lean (wsV RX11 212 RX0 yX0_openBoth wsX0_openBoth) := goodIn_app (goodIn_of _ (by decide +kernel)) ggX11_lean_X0_openBoth
set_option maxRecDepth 20000 in
theorem ggX11_lean_X2_traceWay : GoodIn wsX11_lean wsX2_traceWay := goodIn_r _ [117, 118, 119, 72, 120, 121, 122, 123, 63, 124, 125, 126, 127, 128, 129, 130, 73, 69, 70, 67, 71, 65, 66, 68, 131, 132, 133, 134, 135, 136, 137, 74, 138, 139, 140, 141, 142, 143, 144, 145, 183, 184, 185, 186, 187, 188, 189, 190, 191, 192] (by decide +kernel) (by decide +kernel)
set_option maxRecDepth 20000 in
theorem gX11_lean_X2_traceWay : GoodIn wsX11_lean (wsV RX11 236 RX2 yX2_traceWay wsX2_traceWay) := goodIn_app (goodIn_of _ (by decide +kernel)) ggX11_lean_X2_traceWay
set_option maxRecDepth 20000 in
theorem ggX11_lean_X2_widestOfWay : GoodIn wsX11_lean wsX2_widestOfWay := goodIn_r _ [149, 119, 150, 151, 67, 152, 69, 70, 71, 153, 154, 155, 63, 156, 120, 183, 184, 185, 186, 187, 188, 189, 190, 191, 192] (by decide +kernel) (by decide +kernel)
set_option maxRecDepth 20000 in
theorem gX11_lean_X2_widestOfWay : GoodIn wsX11_lean (wsV RX11 245 RX2 yX2_widestOfWay wsX2_widestOfWay) := goodIn_app (goodIn_of _ (by decide +kernel)) ggX11_lean_X2_widestOfWay
set_option maxRecDepth 20000 in
theorem ggX11_lean_X2_stepsInBoth : GoodIn wsX11_lean wsX2_stepsInBoth := goodIn_r _ [160, 119, 153, 154, 155, 63, 156, 120, 183, 184, 185, 186, 187, 188, 189, 190, 191, 192] (by decide +kernel) (by decide +kernel)
set_option maxRecDepth 20000 in
theorem gX11_lean_X2_stepsInBoth : GoodIn wsX11_lean (wsV RX11 248 RX2 yX2_stepsInBoth wsX2_stepsInBoth) := goodIn_app (goodIn_of _ (by decide +kernel)) ggX11_lean_X2_stepsInBoth
theorem dX11_lean_0 : decode cX11_lean 0 = .ok (.iload_n 3, 1) := by decide +kernel
theorem dX11_lean_1 : decode cX11_lean 1 = .ok (.ifCond .lt 20, 3) := by decide +kernel
theorem dX11_lean_4 : decode cX11_lean 4 = .ok (.iload_n 3, 1) := by decide +kernel
theorem dX11_lean_5 : decode cX11_lean 5 = .ok (.iconst 1, 1) := by decide +kernel
theorem dX11_lean_6 : decode cX11_lean 6 = .ok (.if_icmp .gt 15, 3) := by decide +kernel
theorem dX11_lean_9 : decode cX11_lean 9 = .ok (.aload_n 0, 1) := by decide +kernel
theorem dX11_lean_10 : decode cX11_lean 10 = .ok (.getfield 65, 3) := by decide +kernel
theorem dX11_lean_13 : decode cX11_lean 13 = .ok (.iload_n 1, 1) := by decide +kernel
theorem dX11_lean_14 : decode cX11_lean 14 = .ok (.iload_n 2, 1) := by decide +kernel
theorem dX11_lean_15 : decode cX11_lean 15 = .ok (.invokevirtual 212, 3) := by decide +kernel
theorem dX11_lean_18 : decode cX11_lean 18 = .ok (.ifCond .ne 5, 3) := by decide +kernel
theorem dX11_lean_21 : decode cX11_lean 21 = .ok (.iconst (-1), 1) := by decide +kernel
theorem dX11_lean_22 : decode cX11_lean 22 = .ok (.ireturn, 1) := by decide +kernel
theorem dX11_lean_23 : decode cX11_lean 23 = .ok (.aload_n 0, 1) := by decide +kernel
theorem dX11_lean_24 : decode cX11_lean 24 = .ok (.getfield 65, 3) := by decide +kernel
theorem dX11_lean_27 : decode cX11_lean 27 = .ok (.getfield 202, 3) := by decide +kernel
theorem dX11_lean_30 : decode cX11_lean 30 = .ok (.invokevirtual 236, 3) := by decide +kernel
theorem dX11_lean_33 : decode cX11_lean 33 = .ok (.iload_n 3, 1) := by decide +kernel
theorem dX11_lean_34 : decode cX11_lean 34 = .ok (.ifCond .ne 16, 3) := by decide +kernel
theorem dX11_lean_37 : decode cX11_lean 37 = .ok (.aload_n 0, 1) := by decide +kernel
theorem dX11_lean_38 : decode cX11_lean 38 = .ok (.getfield 65, 3) := by decide +kernel
theorem dX11_lean_41 : decode cX11_lean 41 = .ok (.getfield 202, 3) := by decide +kernel
theorem dX11_lean_44 : decode cX11_lean 44 = .ok (.invokevirtual 245, 3) := by decide +kernel
theorem dX11_lean_47 : decode cX11_lean 47 = .ok (.goto 13, 3) := by decide +kernel
theorem dX11_lean_50 : decode cX11_lean 50 = .ok (.aload_n 0, 1) := by decide +kernel
theorem dX11_lean_51 : decode cX11_lean 51 = .ok (.getfield 65, 3) := by decide +kernel
theorem dX11_lean_54 : decode cX11_lean 54 = .ok (.getfield 202, 3) := by decide +kernel
theorem dX11_lean_57 : decode cX11_lean 57 = .ok (.invokevirtual 248, 3) := by decide +kernel
theorem dX11_lean_60 : decode cX11_lean 60 = .ok (.ireturn, 1) := by decide +kernel
set_option maxRecDepth 20000 in
theorem ggX11_alike_X4_has : GoodIn wsX11_alike wsX4_has := goodIn_r _ [9, 10, 134, 135, 136] (by decide +kernel) (by decide +kernel)
set_option maxRecDepth 20000 in
theorem gX11_alike_X4_has : GoodIn wsX11_alike (wsV RX11 251 RX4 yX4_has wsX4_has) := goodIn_app (goodIn_of _ (by decide +kernel)) ggX11_alike_X4_has
set_option maxRecDepth 20000 in
theorem ggX11_alike_X4_lengthOf : GoodIn wsX11_alike wsX4_lengthOf := goodIn_r _ [14, 15, 16, 6, 7, 8, 9, 10, 134, 135, 136] (by decide +kernel) (by decide +kernel)
set_option maxRecDepth 20000 in
theorem gX11_alike_X4_lengthOf : GoodIn wsX11_alike (wsV RX11 254 RX4 yX4_lengthOf wsX4_lengthOf) := goodIn_app (goodIn_of _ (by decide +kernel)) ggX11_alike_X4_lengthOf
set_option maxRecDepth 20000 in
theorem ggX11_alike_X7_valueOf : GoodIn wsX11_alike wsX7_valueOf := goodIn_r _ [21, 22, 137] (by decide +kernel) (by decide +kernel)
set_option maxRecDepth 20000 in
theorem gX11_alike_X7_valueOf : GoodIn wsX11_alike (wsV RX11 154 RX7 yX7_valueOf wsX7_valueOf) := goodIn_app (goodIn_of _ (by decide +kernel)) ggX11_alike_X7_valueOf
set_option maxRecDepth 20000 in
theorem ggX11_alike_X0_openQuery : GoodIn wsX11_alike wsX0_openQuery := goodIn_r _ [27, 28, 29, 30, 31, 32, 12, 13, 8, 14, 15, 16, 6, 7, 9, 10, 33, 34, 35, 26, 36, 37, 38, 18, 19, 20, 21, 22, 39, 40, 41, 42, 43, 44, 45, 46, 47, 48, 49, 50, 51, 52, 53, 54, 55, 56, 57, 58, 59, 60, 61, 62, 63, 64, 65, 66, 67, 68, 69, 70, 71, 72, 73, 74, 75, 76, 77, 78, 79, 80, 81, 82, 83, 129, 130, 131, 132, 133, 138, 139, 140, 141, 142, 143, 144, 145, 146, 147, 134, 135, 136, 137] (by decide +kernel) (by decide +kernel)
set_option maxRecDepth 20000 in
theorem gX11_alike_X0_openQuery : GoodIn wsX11_alike (wsV RX11 257 RX0 yX0_openQuery wsX0_openQuery) := goodIn_app (goodIn_of _ (by decide +kernel)) ggX11_alike_X0_openQuery
set_option maxRecDepth 20000 in
theorem ggX11_alike_X0_laySecondQuery : GoodIn wsX11_alike wsX0_laySecondQuery := goodIn_r _ [87, 28, 29, 88, 31, 54, 55, 56, 8, 57, 58, 12, 13, 14, 15, 16, 6, 7, 9, 10, 59, 60, 61, 62, 63, 38, 18, 19, 20, 21, 22, 64, 65, 66, 42, 67, 51, 68, 69, 70, 71, 72, 73, 74, 75, 76, 77, 78, 79, 80, 81, 82, 83, 44, 45, 46, 47, 48, 49, 50, 129, 130, 131, 132, 133, 138, 139, 140, 141, 142, 143, 144, 145, 146, 147, 134, 135, 136, 137] (by decide +kernel) (by decide +kernel)
set_option maxRecDepth 20000 in
theorem gX11_alike_X0_laySecondQuery : GoodIn wsX11_alike (wsV RX11 260 RX0 yX0_laySecondQuery wsX0_laySecondQuery) := goodIn_app (goodIn_of _ (by decide +kernel)) ggX11_alike_X0_laySecondQuery
set_option maxRecDepth 20000 in
theorem ggX11_alike_X2_wholeDistance : GoodIn wsX11_alike wsX2_wholeDistance := goodIn_r _ [92, 93, 94, 95, 96, 42, 97, 98, 99, 51, 100, 101, 102, 103, 52, 48, 49, 46, 50, 44, 45, 47, 104, 105, 106, 107, 108, 109, 110, 53, 111, 112, 113, 114, 115, 116, 117, 118, 138, 139, 140, 141, 142, 143, 144, 145, 146, 147] (by decide +kernel) (by decide +kernel)
set_option maxRecDepth 20000 in
theorem gX11_alike_X2_wholeDistance : GoodIn wsX11_alike (wsV RX11 215 RX2 yX2_wholeDistance wsX2_wholeDistance) := goodIn_app (goodIn_of _ (by decide +kernel)) ggX11_alike_X2_wholeDistance
theorem dX11_alike_0 : decode cX11_alike 0 = .ok (.aload_n 0, 1) := by decide +kernel
theorem dX11_alike_1 : decode cX11_alike 1 = .ok (.getfield 35, 3) := by decide +kernel
theorem dX11_alike_4 : decode cX11_alike 4 = .ok (.iload_n 1, 1) := by decide +kernel
theorem dX11_alike_5 : decode cX11_alike 5 = .ok (.invokevirtual 251, 3) := by decide +kernel
theorem dX11_alike_8 : decode cX11_alike 8 = .ok (.ifCond .eq 14, 3) := by decide +kernel
theorem dX11_alike_11 : decode cX11_alike 11 = .ok (.aload_n 0, 1) := by decide +kernel
theorem dX11_alike_12 : decode cX11_alike 12 = .ok (.getfield 35, 3) := by decide +kernel
theorem dX11_alike_15 : decode cX11_alike 15 = .ok (.iload_n 2, 1) := by decide +kernel
theorem dX11_alike_16 : decode cX11_alike 16 = .ok (.invokevirtual 251, 3) := by decide +kernel
theorem dX11_alike_19 : decode cX11_alike 19 = .ok (.ifCond .ne 5, 3) := by decide +kernel
theorem dX11_alike_22 : decode cX11_alike 22 = .ok (.iconst (-1), 1) := by decide +kernel
theorem dX11_alike_23 : decode cX11_alike 23 = .ok (.ireturn, 1) := by decide +kernel
theorem dX11_alike_24 : decode cX11_alike 24 = .ok (.aload_n 0, 1) := by decide +kernel
theorem dX11_alike_25 : decode cX11_alike 25 = .ok (.getfield 35, 3) := by decide +kernel
theorem dX11_alike_28 : decode cX11_alike 28 = .ok (.iload_n 1, 1) := by decide +kernel
theorem dX11_alike_29 : decode cX11_alike 29 = .ok (.invokevirtual 254, 3) := by decide +kernel
theorem dX11_alike_32 : decode cX11_alike 32 = .ok (.aload_n 0, 1) := by decide +kernel
theorem dX11_alike_33 : decode cX11_alike 33 = .ok (.getfield 35, 3) := by decide +kernel
theorem dX11_alike_36 : decode cX11_alike 36 = .ok (.iload_n 2, 1) := by decide +kernel
theorem dX11_alike_37 : decode cX11_alike 37 = .ok (.invokevirtual 254, 3) := by decide +kernel
theorem dX11_alike_40 : decode cX11_alike 40 = .ok (.if_icmp .eq 6, 3) := by decide +kernel
theorem dX11_alike_43 : decode cX11_alike 43 = .ok (.bipush (-2), 2) := by decide +kernel
theorem dX11_alike_45 : decode cX11_alike 45 = .ok (.ireturn, 1) := by decide +kernel
theorem dX11_alike_46 : decode cX11_alike 46 = .ok (.aload_n 0, 1) := by decide +kernel
theorem dX11_alike_47 : decode cX11_alike 47 = .ok (.getfield 65, 3) := by decide +kernel
theorem dX11_alike_50 : decode cX11_alike 50 = .ok (.iload_n 1, 1) := by decide +kernel
theorem dX11_alike_51 : decode cX11_alike 51 = .ok (.aload_n 0, 1) := by decide +kernel
theorem dX11_alike_52 : decode cX11_alike 52 = .ok (.getfield 42, 3) := by decide +kernel
theorem dX11_alike_55 : decode cX11_alike 55 = .ok (.iconst 0, 1) := by decide +kernel
theorem dX11_alike_56 : decode cX11_alike 56 = .ok (.invokevirtual 154, 3) := by decide +kernel
theorem dX11_alike_59 : decode cX11_alike 59 = .ok (.invokevirtual 257, 3) := by decide +kernel
theorem dX11_alike_62 : decode cX11_alike 62 = .ok (.aload_n 0, 1) := by decide +kernel
theorem dX11_alike_63 : decode cX11_alike 63 = .ok (.getfield 65, 3) := by decide +kernel
theorem dX11_alike_66 : decode cX11_alike 66 = .ok (.iload_n 2, 1) := by decide +kernel
theorem dX11_alike_67 : decode cX11_alike 67 = .ok (.invokevirtual 260, 3) := by decide +kernel
theorem dX11_alike_70 : decode cX11_alike 70 = .ok (.aload_n 0, 1) := by decide +kernel
theorem dX11_alike_71 : decode cX11_alike 71 = .ok (.getfield 65, 3) := by decide +kernel
theorem dX11_alike_74 : decode cX11_alike 74 = .ok (.getfield 202, 3) := by decide +kernel
theorem dX11_alike_77 : decode cX11_alike 77 = .ok (.invokevirtual 215, 3) := by decide +kernel
theorem dX11_alike_80 : decode cX11_alike 80 = .ok (.ireturn, 1) := by decide +kernel
set_option maxRecDepth 20000 in
theorem ggX11_whose_X6_hasWindow : GoodIn wsX11_whose wsX6_hasWindow := goodIn_r _ [7, 8, 9, 10, 11, 6, 12, 13, 14, 15, 16, 17, 18, 166, 167, 168] (by decide +kernel) (by decide +kernel)
set_option maxRecDepth 20000 in
theorem gX11_whose_X6_hasWindow : GoodIn wsX11_whose (wsV RX11 183 RX6 yX6_hasWindow wsX6_hasWindow) := goodIn_app (goodIn_of _ (by decide +kernel)) ggX11_whose_X6_hasWindow
set_option maxRecDepth 20000 in
theorem ggX11_whose_X1_nearestQuery : GoodIn wsX11_whose wsX1_nearestQuery := goodIn_r _ [23, 24, 25, 26, 27, 28, 29, 30, 31, 32, 33, 34, 35, 36, 37, 38, 39, 40, 41, 42, 43, 44, 45, 46, 47, 48, 49, 50, 51, 52, 53, 54, 4, 5, 6, 7, 8, 9, 10, 11, 12, 13, 14, 15, 16, 17, 18, 55, 56, 57, 58, 59, 60, 61, 62, 63, 64, 65, 66, 67, 68, 69, 70, 71, 72, 73, 74, 75, 76, 77, 78, 79, 80, 81, 82, 83, 84, 85, 86, 87, 88, 89, 90, 91, 92, 93, 94, 95, 96, 97, 98, 99, 100, 101, 102, 103, 104, 105, 106, 107, 108, 109, 110, 111, 112, 113, 114, 115, 116, 117, 118, 119, 120, 121, 122, 123, 124, 125, 126, 127, 128, 129, 130, 131, 132, 133, 134, 135, 136, 137, 138, 139, 140, 141, 142, 143, 144, 145, 146, 147, 148, 149, 150, 151, 152, 153, 154, 155, 169, 170, 171, 172, 173, 174, 175, 176, 177, 178, 179, 180, 181, 182, 183, 184, 185, 186, 187, 166, 167, 168, 188, 189, 190, 191, 192, 193, 194, 195, 196, 197, 198] (by decide +kernel) (by decide +kernel)
set_option maxRecDepth 20000 in
theorem gX11_whose_X1_nearestQuery : GoodIn wsX11_whose (wsV RX11 263 RX1 yX1_nearestQuery wsX1_nearestQuery) := goodIn_app (goodIn_of _ (by decide +kernel)) ggX11_whose_X1_nearestQuery
theorem dX11_whose_0 : decode cX11_whose 0 = .ok (.aload_n 0, 1) := by decide +kernel
theorem dX11_whose_1 : decode cX11_whose 1 = .ok (.getfield 28, 3) := by decide +kernel
theorem dX11_whose_4 : decode cX11_whose 4 = .ok (.iload_n 1, 1) := by decide +kernel
theorem dX11_whose_5 : decode cX11_whose 5 = .ok (.iload_n 2, 1) := by decide +kernel
theorem dX11_whose_6 : decode cX11_whose 6 = .ok (.invokevirtual 183, 3) := by decide +kernel
theorem dX11_whose_9 : decode cX11_whose 9 = .ok (.ifCond .eq 15, 3) := by decide +kernel
theorem dX11_whose_12 : decode cX11_whose 12 = .ok (.aload_n 0, 1) := by decide +kernel
theorem dX11_whose_13 : decode cX11_whose 13 = .ok (.getfield 74, 3) := by decide +kernel
theorem dX11_whose_16 : decode cX11_whose 16 = .ok (.iload_n 1, 1) := by decide +kernel
theorem dX11_whose_17 : decode cX11_whose 17 = .ok (.iload_n 2, 1) := by decide +kernel
theorem dX11_whose_18 : decode cX11_whose 18 = .ok (.invokevirtual 263, 3) := by decide +kernel
theorem dX11_whose_21 : decode cX11_whose 21 = .ok (.goto 4, 3) := by decide +kernel
theorem dX11_whose_24 : decode cX11_whose 24 = .ok (.iconst (-1), 1) := by decide +kernel
theorem dX11_whose_25 : decode cX11_whose 25 = .ok (.ireturn, 1) := by decide +kernel
set_option maxRecDepth 20000 in
theorem ggX11_fired_X1_firedBits : GoodIn wsX11_fired wsX1_firedBits := goodIn_r _ [6, 7, 8, 9, 10, 11, 12, 13, 14, 15, 16, 17, 18, 19, 20, 21, 22, 23, 24, 25, 26, 27, 28, 29, 30, 31, 32, 33, 34, 35, 36, 37, 38, 39, 40, 41, 42, 43, 44, 45, 46, 47, 48, 49, 50, 51, 52, 53, 54, 55, 56, 57, 58, 59, 60, 61, 62, 63, 64, 65, 66, 67, 68, 69, 70, 71, 72, 73, 74, 75, 76, 77, 78, 79, 80, 81, 82, 83, 84, 85, 86, 87, 88, 89, 90, 91, 92, 93, 94, 95, 96, 97, 98, 99, 100, 101, 102, 103, 104, 105, 106, 107, 108, 109, 110, 111, 112, 113, 114, 115, 116, 117, 118, 119, 120, 121, 122, 123, 124, 125, 126, 127, 128, 129, 130, 131, 132, 133, 134, 135, 136, 137, 138, 139, 140, 141, 142, 143, 144, 145, 146, 147, 148, 149, 150, 151, 152, 153, 154, 165, 166, 167, 168, 169, 170, 171, 172, 173, 174, 175, 176, 177, 178, 179, 180, 181, 182, 183, 184, 185, 186, 187, 188, 189, 190, 191, 192, 193, 194, 195, 196, 197] (by decide +kernel) (by decide +kernel)
set_option maxRecDepth 20000 in
theorem gX11_fired_X1_firedBits : GoodIn wsX11_fired (wsV RX11 266 RX1 yX1_firedBits wsX1_firedBits) := goodIn_app (goodIn_of _ (by decide +kernel)) ggX11_fired_X1_firedBits
theorem dX11_fired_0 : decode cX11_fired 0 = .ok (.iload_n 1, 1) := by decide +kernel
theorem dX11_fired_1 : decode cX11_fired 1 = .ok (.ifCond .ge 7, 3) := by decide +kernel
theorem dX11_fired_4 : decode cX11_fired 4 = .ok (.iconst (-1), 1) := by decide +kernel
theorem dX11_fired_5 : decode cX11_fired 5 = .ok (.goto 11, 3) := by decide +kernel
theorem dX11_fired_8 : decode cX11_fired 8 = .ok (.aload_n 0, 1) := by decide +kernel
theorem dX11_fired_9 : decode cX11_fired 9 = .ok (.getfield 74, 3) := by decide +kernel
theorem dX11_fired_12 : decode cX11_fired 12 = .ok (.iload_n 1, 1) := by decide +kernel
theorem dX11_fired_13 : decode cX11_fired 13 = .ok (.invokevirtual 266, 3) := by decide +kernel
theorem dX11_fired_16 : decode cX11_fired 16 = .ok (.ireturn, 1) := by decide +kernel
set_option maxRecDepth 20000 in
theorem ggX11_best_X4_has : GoodIn wsX11_best wsX4_has := goodIn_r _ [10, 11, 180, 181, 182] (by decide +kernel) (by decide +kernel)
set_option maxRecDepth 20000 in
theorem gX11_best_X4_has : GoodIn wsX11_best (wsV RX11 251 RX4 yX4_has wsX4_has) := goodIn_app (goodIn_of _ (by decide +kernel)) ggX11_best_X4_has
set_option maxRecDepth 20000 in
theorem ggX11_best_X7_valueOf : GoodIn wsX11_best wsX7_valueOf := goodIn_r _ [16, 17, 183] (by decide +kernel) (by decide +kernel)
set_option maxRecDepth 20000 in
theorem gX11_best_X7_valueOf : GoodIn wsX11_best (wsV RX11 154 RX7 yX7_valueOf wsX7_valueOf) := goodIn_app (goodIn_of _ (by decide +kernel)) ggX11_best_X7_valueOf
set_option maxRecDepth 20000 in
theorem ggX11_best_X1_findBest : GoodIn wsX11_best wsX1_findBest := goodIn_r _ [22, 23, 24, 25, 26, 27, 28, 29, 30, 31, 32, 33, 34, 35, 36, 37, 38, 39, 40, 41, 42, 9, 43, 44, 45, 7, 8, 10, 11, 46, 47, 48, 49, 50, 51, 13, 14, 15, 16, 17, 52, 53, 54, 55, 56, 57, 58, 59, 60, 61, 62, 63, 64, 65, 66, 67, 68, 69, 70, 71, 72, 73, 74, 75, 76, 77, 78, 79, 80, 81, 82, 83, 84, 85, 86, 87, 88, 89, 90, 91, 92, 93, 94, 95, 96, 97, 98, 99, 100, 101, 102, 103, 104, 105, 106, 107, 108, 109, 110, 111, 112, 113, 114, 115, 116, 117, 118, 119, 120, 121, 122, 123, 124, 125, 126, 127, 128, 129, 130, 131, 132, 133, 134, 135, 136, 137, 138, 139, 140, 141, 142, 143, 144, 145, 146, 147, 148, 149, 150, 151, 152, 153, 154, 155, 156, 157, 158, 169, 170, 171, 172, 173, 174, 175, 176, 177, 178, 179, 184, 185, 186, 187, 188, 189, 190, 191, 192, 193, 194, 195, 196, 197, 198, 199, 200, 201, 180, 181, 182, 183] (by decide +kernel) (by decide +kernel)
set_option maxRecDepth 20000 in
theorem gX11_best_X1_findBest : GoodIn wsX11_best (wsV RX11 269 RX1 yX1_findBest wsX1_findBest) := goodIn_app (goodIn_of _ (by decide +kernel)) ggX11_best_X1_findBest
theorem dX11_best_0 : decode cX11_best 0 = .ok (.iload_n 2, 1) := by decide +kernel
theorem dX11_best_1 : decode cX11_best 1 = .ok (.ifCond .lt 19, 3) := by decide +kernel
theorem dX11_best_4 : decode cX11_best 4 = .ok (.iload_n 2, 1) := by decide +kernel
theorem dX11_best_5 : decode cX11_best 5 = .ok (.iconst 1, 1) := by decide +kernel
theorem dX11_best_6 : decode cX11_best 6 = .ok (.if_icmp .gt 14, 3) := by decide +kernel
theorem dX11_best_9 : decode cX11_best 9 = .ok (.aload_n 0, 1) := by decide +kernel
theorem dX11_best_10 : decode cX11_best 10 = .ok (.getfield 35, 3) := by decide +kernel
theorem dX11_best_13 : decode cX11_best 13 = .ok (.iload_n 1, 1) := by decide +kernel
theorem dX11_best_14 : decode cX11_best 14 = .ok (.invokevirtual 251, 3) := by decide +kernel
theorem dX11_best_17 : decode cX11_best 17 = .ok (.ifCond .ne 5, 3) := by decide +kernel
theorem dX11_best_20 : decode cX11_best 20 = .ok (.iconst (-1), 1) := by decide +kernel
theorem dX11_best_21 : decode cX11_best 21 = .ok (.ireturn, 1) := by decide +kernel
theorem dX11_best_22 : decode cX11_best 22 = .ok (.aload_n 0, 1) := by decide +kernel
theorem dX11_best_23 : decode cX11_best 23 = .ok (.getfield 74, 3) := by decide +kernel
theorem dX11_best_26 : decode cX11_best 26 = .ok (.iload_n 1, 1) := by decide +kernel
theorem dX11_best_27 : decode cX11_best 27 = .ok (.aload_n 0, 1) := by decide +kernel
theorem dX11_best_28 : decode cX11_best 28 = .ok (.getfield 42, 3) := by decide +kernel
theorem dX11_best_31 : decode cX11_best 31 = .ok (.iconst 0, 1) := by decide +kernel
theorem dX11_best_32 : decode cX11_best 32 = .ok (.invokevirtual 154, 3) := by decide +kernel
theorem dX11_best_35 : decode cX11_best 35 = .ok (.invokevirtual 269, 3) := by decide +kernel
theorem dX11_best_38 : decode cX11_best 38 = .ok (.iload_n 2, 1) := by decide +kernel
theorem dX11_best_39 : decode cX11_best 39 = .ok (.ifCond .ne 13, 3) := by decide +kernel
theorem dX11_best_42 : decode cX11_best 42 = .ok (.aload_n 0, 1) := by decide +kernel
theorem dX11_best_43 : decode cX11_best 43 = .ok (.getfield 74, 3) := by decide +kernel
theorem dX11_best_46 : decode cX11_best 46 = .ok (.getfield 272, 3) := by decide +kernel
theorem dX11_best_49 : decode cX11_best 49 = .ok (.goto 10, 3) := by decide +kernel
theorem dX11_best_52 : decode cX11_best 52 = .ok (.aload_n 0, 1) := by decide +kernel
theorem dX11_best_53 : decode cX11_best 53 = .ok (.getfield 74, 3) := by decide +kernel
theorem dX11_best_56 : decode cX11_best 56 = .ok (.getfield 275, 3) := by decide +kernel
theorem dX11_best_59 : decode cX11_best 59 = .ok (.ireturn, 1) := by decide +kernel
set_option maxRecDepth 20000 in
theorem ggX11_search_X4_has : GoodIn wsX11_search wsX4_has := goodIn_r _ [8, 9, 192, 193, 194] (by decide +kernel) (by decide +kernel)
set_option maxRecDepth 20000 in
theorem gX11_search_X4_has : GoodIn wsX11_search (wsV RX11 251 RX4 yX4_has wsX4_has) := goodIn_app (goodIn_of _ (by decide +kernel)) ggX11_search_X4_has
set_option maxRecDepth 20000 in
theorem ggX11_search_X1_runSearch : GoodIn wsX11_search wsX1_runSearch := goodIn_r _ [14, 15, 16, 17, 18, 19, 20, 21, 22, 23, 24, 25, 26, 27, 28, 29, 30, 31, 32, 33, 34, 35, 36, 37, 38, 39, 40, 7, 41, 42, 43, 5, 6, 8, 9, 44, 45, 46, 47, 48, 49, 50, 51, 52, 53, 54, 55, 56, 57, 58, 59, 60, 61, 62, 63, 64, 65, 66, 67, 68, 69, 70, 71, 72, 73, 74, 75, 76, 77, 78, 79, 80, 81, 82, 83, 84, 85, 86, 87, 88, 89, 90, 91, 92, 93, 94, 95, 96, 97, 98, 99, 100, 101, 102, 103, 104, 105, 106, 107, 108, 109, 110, 111, 112, 113, 114, 115, 116, 117, 118, 119, 120, 121, 122, 123, 124, 125, 126, 127, 128, 129, 130, 131, 132, 133, 134, 135, 136, 137, 138, 139, 140, 141, 142, 143, 144, 145, 146, 147, 148, 149, 150, 151, 152, 153, 154, 155, 156, 157, 158, 159, 160, 161, 162, 163, 164, 165, 166, 13, 167, 168, 169, 170, 181, 182, 183, 184, 185, 186, 187, 188, 189, 190, 191, 195, 196, 197, 198, 199, 200, 201, 202, 203, 204, 205, 206, 207, 208, 209, 210, 211, 212, 213, 192, 193, 194] (by decide +kernel) (by decide +kernel)
set_option maxRecDepth 20000 in
theorem gX11_search_X1_runSearch : GoodIn wsX11_search (wsV RX11 278 RX1 yX1_runSearch wsX1_runSearch) := goodIn_app (goodIn_of _ (by decide +kernel)) ggX11_search_X1_runSearch
theorem dX11_search_0 : decode cX11_search 0 = .ok (.iload_n 2, 1) := by decide +kernel
theorem dX11_search_1 : decode cX11_search 1 = .ok (.ifCond .lt 20, 3) := by decide +kernel
theorem dX11_search_4 : decode cX11_search 4 = .ok (.iload_n 2, 1) := by decide +kernel
theorem dX11_search_5 : decode cX11_search 5 = .ok (.bipush 9, 2) := by decide +kernel
theorem dX11_search_7 : decode cX11_search 7 = .ok (.if_icmp .ge 14, 3) := by decide +kernel
theorem dX11_search_10 : decode cX11_search 10 = .ok (.aload_n 0, 1) := by decide +kernel
theorem dX11_search_11 : decode cX11_search 11 = .ok (.getfield 35, 3) := by decide +kernel
theorem dX11_search_14 : decode cX11_search 14 = .ok (.iload_n 1, 1) := by decide +kernel
theorem dX11_search_15 : decode cX11_search 15 = .ok (.invokevirtual 251, 3) := by decide +kernel
theorem dX11_search_18 : decode cX11_search 18 = .ok (.ifCond .ne 5, 3) := by decide +kernel
theorem dX11_search_21 : decode cX11_search 21 = .ok (.iconst (-1), 1) := by decide +kernel
theorem dX11_search_22 : decode cX11_search 22 = .ok (.ireturn, 1) := by decide +kernel
theorem dX11_search_23 : decode cX11_search 23 = .ok (.aload_n 0, 1) := by decide +kernel
theorem dX11_search_24 : decode cX11_search 24 = .ok (.getfield 74, 3) := by decide +kernel
theorem dX11_search_27 : decode cX11_search 27 = .ok (.iload_n 1, 1) := by decide +kernel
theorem dX11_search_28 : decode cX11_search 28 = .ok (.invokevirtual 278, 3) := by decide +kernel
theorem dX11_search_31 : decode cX11_search 31 = .ok (.aload_n 0, 1) := by decide +kernel
theorem dX11_search_32 : decode cX11_search 32 = .ok (.getfield 74, 3) := by decide +kernel
theorem dX11_search_35 : decode cX11_search 35 = .ok (.getfield 281, 3) := by decide +kernel
theorem dX11_search_38 : decode cX11_search 38 = .ok (.iload_n 2, 1) := by decide +kernel
theorem dX11_search_39 : decode cX11_search 39 = .ok (.iaload, 1) := by decide +kernel
theorem dX11_search_40 : decode cX11_search 40 = .ok (.ireturn, 1) := by decide +kernel
set_option maxRecDepth 20000 in
theorem ggX11_match_X4_has : GoodIn wsX11_match wsX4_has := goodIn_r _ [7, 8, 185, 186, 187] (by decide +kernel) (by decide +kernel)
set_option maxRecDepth 20000 in
theorem gX11_match_X4_has : GoodIn wsX11_match (wsV RX11 251 RX4 yX4_has wsX4_has) := goodIn_app (goodIn_of _ (by decide +kernel)) ggX11_match_X4_has
set_option maxRecDepth 20000 in
theorem ggX11_match_X1_findMatches : GoodIn wsX11_match wsX1_findMatches := goodIn_r _ [13, 14, 15, 16, 17, 18, 19, 20, 12, 21, 22, 23, 24, 25, 26, 27, 28, 29, 30, 31, 32, 33, 34, 35, 36, 37, 38, 39, 40, 41, 42, 43, 44, 6, 45, 46, 47, 4, 5, 7, 8, 48, 49, 50, 51, 52, 53, 54, 55, 56, 57, 58, 59, 60, 61, 62, 63, 64, 65, 66, 67, 68, 69, 70, 71, 72, 73, 74, 75, 76, 77, 78, 79, 80, 81, 82, 83, 84, 85, 86, 87, 88, 89, 90, 91, 92, 93, 94, 95, 96, 97, 98, 99, 100, 101, 102, 103, 104, 105, 106, 107, 108, 109, 110, 111, 112, 113, 114, 115, 116, 117, 118, 119, 120, 121, 122, 123, 124, 125, 126, 127, 128, 129, 130, 131, 132, 133, 134, 135, 136, 137, 138, 139, 140, 141, 142, 143, 144, 145, 146, 147, 148, 149, 150, 151, 152, 153, 154, 155, 156, 157, 158, 159, 160, 161, 162, 163, 164, 165, 166, 188, 189, 190, 191, 192, 193, 194, 195, 196, 197, 198, 199, 200, 201, 202, 203, 204, 205, 206, 207, 208, 209, 210, 211, 212, 213, 214, 185, 186, 187, 215, 216, 217] (by decide +kernel) (by decide +kernel)
set_option maxRecDepth 20000 in
theorem gX11_match_X1_findMatches : GoodIn wsX11_match (wsV RX11 284 RX1 yX1_findMatches wsX1_findMatches) := goodIn_app (goodIn_of _ (by decide +kernel)) ggX11_match_X1_findMatches
set_option maxRecDepth 20000 in
theorem ggX11_match_X1_matchWindow : GoodIn wsX11_match wsX1_matchWindow := goodIn_r _ [170, 14, 15, 188, 189, 190, 191, 192, 193, 194, 195, 196, 197, 198] (by decide +kernel) (by decide +kernel)
set_option maxRecDepth 20000 in
theorem gX11_match_X1_matchWindow : GoodIn wsX11_match (wsV RX11 287 RX1 yX1_matchWindow wsX1_matchWindow) := goodIn_app (goodIn_of _ (by decide +kernel)) ggX11_match_X1_matchWindow
set_option maxRecDepth 20000 in
theorem ggX11_match_X1_matchDistance : GoodIn wsX11_match wsX1_matchDistance := goodIn_r _ [174, 14, 16, 188, 189, 190, 191, 192, 193, 194, 195, 196, 197, 198] (by decide +kernel) (by decide +kernel)
set_option maxRecDepth 20000 in
theorem gX11_match_X1_matchDistance : GoodIn wsX11_match (wsV RX11 290 RX1 yX1_matchDistance wsX1_matchDistance) := goodIn_app (goodIn_of _ (by decide +kernel)) ggX11_match_X1_matchDistance
theorem dX11_match_0 : decode cX11_match 0 = .ok (.iload_n 2, 1) := by decide +kernel
theorem dX11_match_1 : decode cX11_match 1 = .ok (.ifCond .lt 23, 3) := by decide +kernel
theorem dX11_match_4 : decode cX11_match 4 = .ok (.iload_n 3, 1) := by decide +kernel
theorem dX11_match_5 : decode cX11_match 5 = .ok (.ifCond .lt 19, 3) := by decide +kernel
theorem dX11_match_8 : decode cX11_match 8 = .ok (.iload_n 3, 1) := by decide +kernel
theorem dX11_match_9 : decode cX11_match 9 = .ok (.iconst 1, 1) := by decide +kernel
theorem dX11_match_10 : decode cX11_match 10 = .ok (.if_icmp .gt 14, 3) := by decide +kernel
theorem dX11_match_13 : decode cX11_match 13 = .ok (.aload_n 0, 1) := by decide +kernel
theorem dX11_match_14 : decode cX11_match 14 = .ok (.getfield 35, 3) := by decide +kernel
theorem dX11_match_17 : decode cX11_match 17 = .ok (.iload_n 1, 1) := by decide +kernel
theorem dX11_match_18 : decode cX11_match 18 = .ok (.invokevirtual 251, 3) := by decide +kernel
theorem dX11_match_21 : decode cX11_match 21 = .ok (.ifCond .ne 5, 3) := by decide +kernel
theorem dX11_match_24 : decode cX11_match 24 = .ok (.iconst (-1), 1) := by decide +kernel
theorem dX11_match_25 : decode cX11_match 25 = .ok (.ireturn, 1) := by decide +kernel
theorem dX11_match_26 : decode cX11_match 26 = .ok (.aload_n 0, 1) := by decide +kernel
theorem dX11_match_27 : decode cX11_match 27 = .ok (.getfield 74, 3) := by decide +kernel
theorem dX11_match_30 : decode cX11_match 30 = .ok (.iload_n 1, 1) := by decide +kernel
theorem dX11_match_31 : decode cX11_match 31 = .ok (.invokevirtual 284, 3) := by decide +kernel
theorem dX11_match_34 : decode cX11_match 34 = .ok (.iload_n 3, 1) := by decide +kernel
theorem dX11_match_35 : decode cX11_match 35 = .ok (.ifCond .ne 14, 3) := by decide +kernel
theorem dX11_match_38 : decode cX11_match 38 = .ok (.aload_n 0, 1) := by decide +kernel
theorem dX11_match_39 : decode cX11_match 39 = .ok (.getfield 74, 3) := by decide +kernel
theorem dX11_match_42 : decode cX11_match 42 = .ok (.iload_n 2, 1) := by decide +kernel
theorem dX11_match_43 : decode cX11_match 43 = .ok (.invokevirtual 287, 3) := by decide +kernel
theorem dX11_match_46 : decode cX11_match 46 = .ok (.goto 11, 3) := by decide +kernel
theorem dX11_match_49 : decode cX11_match 49 = .ok (.aload_n 0, 1) := by decide +kernel
theorem dX11_match_50 : decode cX11_match 50 = .ok (.getfield 74, 3) := by decide +kernel
theorem dX11_match_53 : decode cX11_match 53 = .ok (.iload_n 2, 1) := by decide +kernel
theorem dX11_match_54 : decode cX11_match 54 = .ok (.invokevirtual 290, 3) := by decide +kernel
theorem dX11_match_57 : decode cX11_match 57 = .ok (.ireturn, 1) := by decide +kernel
set_option maxRecDepth 20000 in
theorem ggX11_within_X4_has : GoodIn wsX11_within wsX4_has := goodIn_r _ [7, 8, 185, 186, 187] (by decide +kernel) (by decide +kernel)
set_option maxRecDepth 20000 in
theorem gX11_within_X4_has : GoodIn wsX11_within (wsV RX11 251 RX4 yX4_has wsX4_has) := goodIn_app (goodIn_of _ (by decide +kernel)) ggX11_within_X4_has
set_option maxRecDepth 20000 in
theorem ggX11_within_X1_findMatches : GoodIn wsX11_within wsX1_findMatches := goodIn_r _ [13, 14, 15, 16, 17, 18, 19, 20, 12, 21, 22, 23, 24, 25, 26, 27, 28, 29, 30, 31, 32, 33, 34, 35, 36, 37, 38, 39, 40, 41, 42, 43, 44, 6, 45, 46, 47, 4, 5, 7, 8, 48, 49, 50, 51, 52, 53, 54, 55, 56, 57, 58, 59, 60, 61, 62, 63, 64, 65, 66, 67, 68, 69, 70, 71, 72, 73, 74, 75, 76, 77, 78, 79, 80, 81, 82, 83, 84, 85, 86, 87, 88, 89, 90, 91, 92, 93, 94, 95, 96, 97, 98, 99, 100, 101, 102, 103, 104, 105, 106, 107, 108, 109, 110, 111, 112, 113, 114, 115, 116, 117, 118, 119, 120, 121, 122, 123, 124, 125, 126, 127, 128, 129, 130, 131, 132, 133, 134, 135, 136, 137, 138, 139, 140, 141, 142, 143, 144, 145, 146, 147, 148, 149, 150, 151, 152, 153, 154, 155, 156, 157, 158, 159, 160, 161, 162, 163, 164, 165, 166, 188, 189, 190, 191, 192, 193, 194, 195, 196, 197, 198, 199, 200, 201, 202, 203, 204, 205, 206, 207, 208, 209, 210, 211, 212, 213, 214, 185, 186, 187, 215, 216, 217] (by decide +kernel) (by decide +kernel)
set_option maxRecDepth 20000 in
theorem gX11_within_X1_findMatches : GoodIn wsX11_within (wsV RX11 284 RX1 yX1_findMatches wsX1_findMatches) := goodIn_app (goodIn_of _ (by decide +kernel)) ggX11_within_X1_findMatches
set_option maxRecDepth 20000 in
theorem ggX11_within_X1_matchesWithin : GoodIn wsX11_within wsX1_matchesWithin := goodIn_r _ [170, 14, 171, 172, 173, 12, 174, 16, 188, 189, 190, 191, 192, 193, 194, 195, 196, 197, 198] (by decide +kernel) (by decide +kernel)
set_option maxRecDepth 20000 in
theorem gX11_within_X1_matchesWithin : GoodIn wsX11_within (wsV RX11 293 RX1 yX1_matchesWithin wsX1_matchesWithin) := goodIn_app (goodIn_of _ (by decide +kernel)) ggX11_within_X1_matchesWithin
theorem dX11_within_0 : decode cX11_within 0 = .ok (.iload_n 2, 1) := by decide +kernel
theorem dX11_within_1 : decode cX11_within 1 = .ok (.ifCond .lt 14, 3) := by decide +kernel
theorem dX11_within_4 : decode cX11_within 4 = .ok (.aload_n 0, 1) := by decide +kernel
theorem dX11_within_5 : decode cX11_within 5 = .ok (.getfield 35, 3) := by decide +kernel
theorem dX11_within_8 : decode cX11_within 8 = .ok (.iload_n 1, 1) := by decide +kernel
theorem dX11_within_9 : decode cX11_within 9 = .ok (.invokevirtual 251, 3) := by decide +kernel
theorem dX11_within_12 : decode cX11_within 12 = .ok (.ifCond .ne 5, 3) := by decide +kernel
theorem dX11_within_15 : decode cX11_within 15 = .ok (.iconst (-1), 1) := by decide +kernel
theorem dX11_within_16 : decode cX11_within 16 = .ok (.ireturn, 1) := by decide +kernel
theorem dX11_within_17 : decode cX11_within 17 = .ok (.aload_n 0, 1) := by decide +kernel
theorem dX11_within_18 : decode cX11_within 18 = .ok (.getfield 74, 3) := by decide +kernel
theorem dX11_within_21 : decode cX11_within 21 = .ok (.iload_n 1, 1) := by decide +kernel
theorem dX11_within_22 : decode cX11_within 22 = .ok (.invokevirtual 284, 3) := by decide +kernel
theorem dX11_within_25 : decode cX11_within 25 = .ok (.aload_n 0, 1) := by decide +kernel
theorem dX11_within_26 : decode cX11_within 26 = .ok (.getfield 74, 3) := by decide +kernel
theorem dX11_within_29 : decode cX11_within 29 = .ok (.iload_n 2, 1) := by decide +kernel
theorem dX11_within_30 : decode cX11_within 30 = .ok (.invokevirtual 293, 3) := by decide +kernel
theorem dX11_within_33 : decode cX11_within 33 = .ok (.ireturn, 1) := by decide +kernel
set_option maxRecDepth 20000 in
theorem ggX11_cover_X4_has : GoodIn wsX11_cover wsX4_has := goodIn_r _ [7, 8, 195, 196, 197] (by decide +kernel) (by decide +kernel)
set_option maxRecDepth 20000 in
theorem gX11_cover_X4_has : GoodIn wsX11_cover (wsV RX11 251 RX4 yX4_has wsX4_has) := goodIn_app (goodIn_of _ (by decide +kernel)) ggX11_cover_X4_has
set_option maxRecDepth 20000 in
theorem ggX11_cover_X1_findMatches : GoodIn wsX11_cover wsX1_findMatches := goodIn_r _ [13, 14, 15, 16, 17, 18, 19, 20, 12, 21, 22, 23, 24, 25, 26, 27, 28, 29, 30, 31, 32, 33, 34, 35, 36, 37, 38, 39, 40, 41, 42, 43, 44, 6, 45, 46, 47, 4, 5, 7, 8, 48, 49, 50, 51, 52, 53, 54, 55, 56, 57, 58, 59, 60, 61, 62, 63, 64, 65, 66, 67, 68, 69, 70, 71, 72, 73, 74, 75, 76, 77, 78, 79, 80, 81, 82, 83, 84, 85, 86, 87, 88, 89, 90, 91, 92, 93, 94, 95, 96, 97, 98, 99, 100, 101, 102, 103, 104, 105, 106, 107, 108, 109, 110, 111, 112, 113, 114, 115, 116, 117, 118, 119, 120, 121, 122, 123, 124, 125, 126, 127, 128, 129, 130, 131, 132, 133, 134, 135, 136, 137, 138, 139, 140, 141, 142, 143, 144, 145, 146, 147, 148, 149, 150, 151, 152, 153, 154, 155, 156, 157, 158, 159, 160, 161, 162, 163, 164, 165, 166, 198, 199, 200, 201, 202, 203, 204, 205, 206, 207, 208, 209, 210, 211, 212, 213, 214, 215, 216, 217, 218, 219, 220, 221, 222, 223, 224, 195, 196, 197, 225, 226, 227] (by decide +kernel) (by decide +kernel)
set_option maxRecDepth 20000 in
theorem gX11_cover_X1_findMatches : GoodIn wsX11_cover (wsV RX11 284 RX1 yX1_findMatches wsX1_findMatches) := goodIn_app (goodIn_of _ (by decide +kernel)) ggX11_cover_X1_findMatches
set_option maxRecDepth 20000 in
theorem ggX11_cover_X4_lengthOf : GoodIn wsX11_cover wsX4_lengthOf := goodIn_r _ [45, 46, 47, 4, 5, 6, 7, 8, 195, 196, 197] (by decide +kernel) (by decide +kernel)
set_option maxRecDepth 20000 in
theorem gX11_cover_X4_lengthOf : GoodIn wsX11_cover (wsV RX11 254 RX4 yX4_lengthOf wsX4_lengthOf) := goodIn_app (goodIn_of _ (by decide +kernel)) ggX11_cover_X4_lengthOf
set_option maxRecDepth 20000 in
theorem ggX11_cover_X1_placesWithin : GoodIn wsX11_cover wsX1_placesWithin := goodIn_r _ [171, 172, 14, 173, 174, 175, 12, 176, 16, 177, 178, 179, 180, 15, 181, 182, 183, 184, 198, 199, 200, 201, 202, 203, 204, 205, 206, 207, 208] (by decide +kernel) (by decide +kernel)
set_option maxRecDepth 20000 in
theorem gX11_cover_X1_placesWithin : GoodIn wsX11_cover (wsV RX11 296 RX1 yX1_placesWithin wsX1_placesWithin) := goodIn_app (goodIn_of _ (by decide +kernel)) ggX11_cover_X1_placesWithin
theorem dX11_cover_0 : decode cX11_cover 0 = .ok (.iload_n 2, 1) := by decide +kernel
theorem dX11_cover_1 : decode cX11_cover 1 = .ok (.ifCond .lt 14, 3) := by decide +kernel
theorem dX11_cover_4 : decode cX11_cover 4 = .ok (.aload_n 0, 1) := by decide +kernel
theorem dX11_cover_5 : decode cX11_cover 5 = .ok (.getfield 35, 3) := by decide +kernel
theorem dX11_cover_8 : decode cX11_cover 8 = .ok (.iload_n 1, 1) := by decide +kernel
theorem dX11_cover_9 : decode cX11_cover 9 = .ok (.invokevirtual 251, 3) := by decide +kernel
theorem dX11_cover_12 : decode cX11_cover 12 = .ok (.ifCond .ne 5, 3) := by decide +kernel
theorem dX11_cover_15 : decode cX11_cover 15 = .ok (.iconst (-1), 1) := by decide +kernel
theorem dX11_cover_16 : decode cX11_cover 16 = .ok (.ireturn, 1) := by decide +kernel
theorem dX11_cover_17 : decode cX11_cover 17 = .ok (.aload_n 0, 1) := by decide +kernel
theorem dX11_cover_18 : decode cX11_cover 18 = .ok (.getfield 74, 3) := by decide +kernel
theorem dX11_cover_21 : decode cX11_cover 21 = .ok (.iload_n 1, 1) := by decide +kernel
theorem dX11_cover_22 : decode cX11_cover 22 = .ok (.invokevirtual 284, 3) := by decide +kernel
theorem dX11_cover_25 : decode cX11_cover 25 = .ok (.aload_n 0, 1) := by decide +kernel
theorem dX11_cover_26 : decode cX11_cover 26 = .ok (.getfield 74, 3) := by decide +kernel
theorem dX11_cover_29 : decode cX11_cover 29 = .ok (.iload_n 2, 1) := by decide +kernel
theorem dX11_cover_30 : decode cX11_cover 30 = .ok (.aload_n 0, 1) := by decide +kernel
theorem dX11_cover_31 : decode cX11_cover 31 = .ok (.getfield 35, 3) := by decide +kernel
theorem dX11_cover_34 : decode cX11_cover 34 = .ok (.iload_n 1, 1) := by decide +kernel
theorem dX11_cover_35 : decode cX11_cover 35 = .ok (.invokevirtual 254, 3) := by decide +kernel
theorem dX11_cover_38 : decode cX11_cover 38 = .ok (.invokevirtual 296, 3) := by decide +kernel
theorem dX11_cover_41 : decode cX11_cover 41 = .ok (.ireturn, 1) := by decide +kernel
set_option maxRecDepth 20000 in
theorem ggX11_needs_X0_hasBoth : GoodIn wsX11_needs wsX0_hasBoth := goodIn_r _ [7, 8, 9, 10, 11, 12, 13, 14, 15, 16, 17, 18, 19, 20, 21, 22, 23, 24, 25, 26, 27, 28, 29, 30, 31, 32, 33, 34, 35, 36, 37, 174, 175, 176, 177, 178, 179, 180, 181, 182, 183, 184] (by decide +kernel) (by decide +kernel)
set_option maxRecDepth 20000 in
theorem gX11_needs_X0_hasBoth : GoodIn wsX11_needs (wsV RX11 299 RX0 yX0_hasBoth wsX0_hasBoth) := goodIn_app (goodIn_of _ (by decide +kernel)) ggX11_needs_X0_hasBoth
set_option maxRecDepth 20000 in
theorem ggX11_needs_X1_neededBand : GoodIn wsX11_needs wsX1_neededBand := goodIn_r _ [42, 43, 44, 45, 17, 18, 13, 19, 20, 21, 11, 12, 14, 15, 46, 47, 48, 41, 49, 50, 51, 52, 53, 54, 55, 56, 57, 58, 6, 59, 8, 60, 61, 62, 16, 63, 64, 65, 66, 67, 68, 69, 70, 71, 72, 73, 74, 75, 76, 77, 78, 79, 80, 81, 82, 83, 84, 85, 86, 87, 88, 89, 90, 91, 92, 93, 94, 95, 96, 97, 98, 99, 100, 101, 102, 103, 104, 105, 106, 107, 108, 109, 110, 111, 112, 113, 114, 115, 116, 117, 118, 119, 23, 24, 25, 26, 27, 28, 29, 30, 31, 32, 33, 34, 35, 36, 37, 120, 121, 122, 123, 9, 124, 125, 126, 127, 128, 129, 130, 131, 132, 133, 134, 135, 136, 137, 138, 139, 140, 141, 142, 143, 144, 145, 146, 147, 148, 149, 150, 151, 152, 153, 154, 155, 156, 157, 158, 159, 160, 161, 162, 163, 185, 186, 187, 188, 189, 190, 191, 192, 193, 194, 195, 179, 180, 181, 182, 183, 184, 174, 175, 176, 177, 178, 196, 197, 198, 199, 200, 201, 202, 203, 204, 205, 206] (by decide +kernel) (by decide +kernel)
set_option maxRecDepth 20000 in
theorem gX11_needs_X1_neededBand : GoodIn wsX11_needs (wsV RX11 302 RX1 yX1_neededBand wsX1_neededBand) := goodIn_app (goodIn_of _ (by decide +kernel)) ggX11_needs_X1_neededBand
theorem dX11_needs_0 : decode cX11_needs 0 = .ok (.aload_n 0, 1) := by decide +kernel
theorem dX11_needs_1 : decode cX11_needs 1 = .ok (.getfield 65, 3) := by decide +kernel
theorem dX11_needs_4 : decode cX11_needs 4 = .ok (.iload_n 1, 1) := by decide +kernel
theorem dX11_needs_5 : decode cX11_needs 5 = .ok (.iload_n 2, 1) := by decide +kernel
theorem dX11_needs_6 : decode cX11_needs 6 = .ok (.invokevirtual 299, 3) := by decide +kernel
theorem dX11_needs_9 : decode cX11_needs 9 = .ok (.ifCond .eq 15, 3) := by decide +kernel
theorem dX11_needs_12 : decode cX11_needs 12 = .ok (.aload_n 0, 1) := by decide +kernel
theorem dX11_needs_13 : decode cX11_needs 13 = .ok (.getfield 74, 3) := by decide +kernel
theorem dX11_needs_16 : decode cX11_needs 16 = .ok (.iload_n 1, 1) := by decide +kernel
theorem dX11_needs_17 : decode cX11_needs 17 = .ok (.iload_n 2, 1) := by decide +kernel
theorem dX11_needs_18 : decode cX11_needs 18 = .ok (.invokevirtual 302, 3) := by decide +kernel
theorem dX11_needs_21 : decode cX11_needs 21 = .ok (.goto 4, 3) := by decide +kernel
theorem dX11_needs_24 : decode cX11_needs 24 = .ok (.iconst (-1), 1) := by decide +kernel
theorem dX11_needs_25 : decode cX11_needs 25 = .ok (.ireturn, 1) := by decide +kernel
set_option maxRecDepth 20000 in
theorem ggX11_rank_X0_hasBoth : GoodIn wsX11_rank wsX0_hasBoth := goodIn_r _ [7, 8, 9, 10, 11, 12, 13, 14, 15, 16, 17, 18, 19, 20, 21, 22, 23, 24, 25, 26, 27, 28, 29, 30, 31, 32, 33, 34, 35, 36, 37, 172, 173, 174, 175, 176, 177, 178, 179, 180, 181, 182] (by decide +kernel) (by decide +kernel)
set_option maxRecDepth 20000 in
theorem gX11_rank_X0_hasBoth : GoodIn wsX11_rank (wsV RX11 299 RX0 yX0_hasBoth wsX0_hasBoth) := goodIn_app (goodIn_of _ (by decide +kernel)) ggX11_rank_X0_hasBoth
set_option maxRecDepth 20000 in
theorem ggX11_rank_X1_scan : GoodIn wsX11_rank wsX1_scan := goodIn_r _ [42, 43, 44, 45, 46, 47, 48, 49, 50, 51, 52, 53, 54, 55, 56, 57, 6, 58, 8, 59, 60, 61, 16, 17, 18, 13, 19, 20, 21, 11, 12, 14, 15, 62, 63, 64, 65, 66, 67, 68, 69, 70, 71, 72, 73, 74, 75, 76, 77, 78, 79, 80, 81, 82, 83, 84, 85, 86, 87, 88, 89, 90, 91, 92, 93, 94, 95, 96, 97, 98, 99, 100, 101, 102, 103, 104, 105, 106, 107, 108, 109, 110, 111, 112, 113, 114, 23, 24, 25, 26, 27, 28, 29, 30, 31, 32, 33, 34, 35, 36, 37, 115, 116, 117, 118, 9, 119, 120, 121, 122, 123, 124, 125, 126, 127, 128, 129, 130, 131, 132, 133, 134, 135, 136, 137, 138, 139, 140, 141, 142, 143, 144, 145, 146, 147, 148, 149, 150, 151, 152, 153, 183, 184, 185, 186, 187, 188, 189, 190, 191, 192, 193, 172, 173, 174, 175, 176, 194, 195, 196, 197, 198, 199, 200, 201, 202, 203, 204, 177, 178, 179, 180, 181, 182] (by decide +kernel) (by decide +kernel)
set_option maxRecDepth 20000 in
theorem gX11_rank_X1_scan : GoodIn wsX11_rank (wsV RX11 305 RX1 yX1_scan wsX1_scan) := goodIn_app (goodIn_of _ (by decide +kernel)) ggX11_rank_X1_scan
set_option maxRecDepth 20000 in
theorem ggX11_rank_X1_rankOf : GoodIn wsX11_rank wsX1_rankOf := goodIn_r _ [157, 45, 158, 159, 160, 41, 161, 183, 184, 185, 186, 187, 188, 189, 190, 191, 192, 193] (by decide +kernel) (by decide +kernel)
set_option maxRecDepth 20000 in
theorem gX11_rank_X1_rankOf : GoodIn wsX11_rank (wsV RX11 308 RX1 yX1_rankOf wsX1_rankOf) := goodIn_app (goodIn_of _ (by decide +kernel)) ggX11_rank_X1_rankOf
theorem dX11_rank_0 : decode cX11_rank 0 = .ok (.aload_n 0, 1) := by decide +kernel
theorem dX11_rank_1 : decode cX11_rank 1 = .ok (.getfield 65, 3) := by decide +kernel
theorem dX11_rank_4 : decode cX11_rank 4 = .ok (.iload_n 1, 1) := by decide +kernel
theorem dX11_rank_5 : decode cX11_rank 5 = .ok (.iload_n 2, 1) := by decide +kernel
theorem dX11_rank_6 : decode cX11_rank 6 = .ok (.invokevirtual 299, 3) := by decide +kernel
theorem dX11_rank_9 : decode cX11_rank 9 = .ok (.ifCond .ne 5, 3) := by decide +kernel
theorem dX11_rank_12 : decode cX11_rank 12 = .ok (.iconst (-1), 1) := by decide +kernel
theorem dX11_rank_13 : decode cX11_rank 13 = .ok (.ireturn, 1) := by decide +kernel
theorem dX11_rank_14 : decode cX11_rank 14 = .ok (.aload_n 0, 1) := by decide +kernel
theorem dX11_rank_15 : decode cX11_rank 15 = .ok (.getfield 74, 3) := by decide +kernel
theorem dX11_rank_18 : decode cX11_rank 18 = .ok (.iload_n 1, 1) := by decide +kernel
theorem dX11_rank_19 : decode cX11_rank 19 = .ok (.invokevirtual 305, 3) := by decide +kernel
theorem dX11_rank_22 : decode cX11_rank 22 = .ok (.aload_n 0, 1) := by decide +kernel
theorem dX11_rank_23 : decode cX11_rank 23 = .ok (.getfield 74, 3) := by decide +kernel
theorem dX11_rank_26 : decode cX11_rank 26 = .ok (.iload_n 2, 1) := by decide +kernel
theorem dX11_rank_27 : decode cX11_rank 27 = .ok (.invokevirtual 308, 3) := by decide +kernel
theorem dX11_rank_30 : decode cX11_rank 30 = .ok (.ireturn, 1) := by decide +kernel
set_option maxRecDepth 20000 in
theorem ggX11_kth_X4_has : GoodIn wsX11_kth wsX4_has := goodIn_r _ [7, 8, 172, 173, 174] (by decide +kernel) (by decide +kernel)
set_option maxRecDepth 20000 in
theorem gX11_kth_X4_has : GoodIn wsX11_kth (wsV RX11 251 RX4 yX4_has wsX4_has) := goodIn_app (goodIn_of _ (by decide +kernel)) ggX11_kth_X4_has
set_option maxRecDepth 20000 in
theorem ggX11_kth_X1_scan : GoodIn wsX11_kth wsX1_scan := goodIn_r _ [13, 14, 15, 16, 17, 18, 19, 20, 21, 22, 23, 24, 25, 26, 27, 28, 29, 30, 31, 32, 33, 34, 35, 36, 37, 6, 38, 39, 40, 4, 5, 7, 8, 41, 42, 43, 44, 45, 46, 47, 48, 49, 50, 51, 52, 53, 54, 55, 56, 57, 58, 59, 60, 61, 62, 63, 64, 65, 66, 67, 68, 69, 70, 71, 72, 73, 74, 75, 76, 77, 78, 79, 80, 81, 82, 83, 84, 85, 86, 87, 88, 89, 90, 91, 92, 93, 94, 95, 96, 97, 98, 99, 100, 101, 102, 103, 104, 105, 106, 107, 108, 109, 110, 111, 112, 113, 114, 115, 116, 117, 118, 119, 120, 121, 122, 123, 124, 125, 126, 127, 128, 129, 130, 131, 132, 133, 134, 135, 136, 137, 138, 139, 140, 141, 142, 143, 144, 145, 146, 147, 148, 175, 176, 177, 178, 179, 180, 181, 182, 183, 184, 185, 186, 187, 188, 189, 190, 191, 192, 193, 194, 195, 196, 197, 198, 199, 200, 201, 172, 173, 174, 202, 203, 204] (by decide +kernel) (by decide +kernel)
set_option maxRecDepth 20000 in
theorem gX11_kth_X1_scan : GoodIn wsX11_kth (wsV RX11 305 RX1 yX1_scan wsX1_scan) := goodIn_app (goodIn_of _ (by decide +kernel)) ggX11_kth_X1_scan
set_option maxRecDepth 20000 in
theorem ggX11_kth_X1_windowOfRank : GoodIn wsX11_kth wsX1_windowOfRank := goodIn_r _ [152, 16, 153, 154, 155, 12, 156, 157, 158, 159, 160, 175, 176, 177, 178, 179, 180, 181, 182, 183, 184, 185] (by decide +kernel) (by decide +kernel)
set_option maxRecDepth 20000 in
theorem gX11_kth_X1_windowOfRank : GoodIn wsX11_kth (wsV RX11 311 RX1 yX1_windowOfRank wsX1_windowOfRank) := goodIn_app (goodIn_of _ (by decide +kernel)) ggX11_kth_X1_windowOfRank
set_option maxRecDepth 20000 in
theorem ggX11_kth_X1_scannedDistance : GoodIn wsX11_kth wsX1_scannedDistance := goodIn_r _ [160, 16, 175, 176, 177, 178, 179, 180, 181, 182, 183, 184, 185] (by decide +kernel) (by decide +kernel)
set_option maxRecDepth 20000 in
theorem gX11_kth_X1_scannedDistance : GoodIn wsX11_kth (wsV RX11 314 RX1 yX1_scannedDistance wsX1_scannedDistance) := goodIn_app (goodIn_of _ (by decide +kernel)) ggX11_kth_X1_scannedDistance
theorem dX11_kth_0 : decode cX11_kth 0 = .ok (.iload_n 2, 1) := by decide +kernel
theorem dX11_kth_1 : decode cX11_kth 1 = .ok (.ifCond .lt 23, 3) := by decide +kernel
theorem dX11_kth_4 : decode cX11_kth 4 = .ok (.iload_n 3, 1) := by decide +kernel
theorem dX11_kth_5 : decode cX11_kth 5 = .ok (.ifCond .lt 19, 3) := by decide +kernel
theorem dX11_kth_8 : decode cX11_kth 8 = .ok (.iload_n 3, 1) := by decide +kernel
theorem dX11_kth_9 : decode cX11_kth 9 = .ok (.iconst 1, 1) := by decide +kernel
theorem dX11_kth_10 : decode cX11_kth 10 = .ok (.if_icmp .gt 14, 3) := by decide +kernel
theorem dX11_kth_13 : decode cX11_kth 13 = .ok (.aload_n 0, 1) := by decide +kernel
theorem dX11_kth_14 : decode cX11_kth 14 = .ok (.getfield 35, 3) := by decide +kernel
theorem dX11_kth_17 : decode cX11_kth 17 = .ok (.iload_n 1, 1) := by decide +kernel
theorem dX11_kth_18 : decode cX11_kth 18 = .ok (.invokevirtual 251, 3) := by decide +kernel
theorem dX11_kth_21 : decode cX11_kth 21 = .ok (.ifCond .ne 5, 3) := by decide +kernel
theorem dX11_kth_24 : decode cX11_kth 24 = .ok (.iconst (-1), 1) := by decide +kernel
theorem dX11_kth_25 : decode cX11_kth 25 = .ok (.ireturn, 1) := by decide +kernel
theorem dX11_kth_26 : decode cX11_kth 26 = .ok (.aload_n 0, 1) := by decide +kernel
theorem dX11_kth_27 : decode cX11_kth 27 = .ok (.getfield 74, 3) := by decide +kernel
theorem dX11_kth_30 : decode cX11_kth 30 = .ok (.iload_n 1, 1) := by decide +kernel
theorem dX11_kth_31 : decode cX11_kth 31 = .ok (.invokevirtual 305, 3) := by decide +kernel
theorem dX11_kth_34 : decode cX11_kth 34 = .ok (.aload_n 0, 1) := by decide +kernel
theorem dX11_kth_35 : decode cX11_kth 35 = .ok (.getfield 74, 3) := by decide +kernel
theorem dX11_kth_38 : decode cX11_kth 38 = .ok (.iload_n 2, 1) := by decide +kernel
theorem dX11_kth_39 : decode cX11_kth 39 = .ok (.invokevirtual 311, 3) := by decide +kernel
theorem dX11_kth_42 : decode cX11_kth 42 = .ok (.istore 4, 2) := by decide +kernel
theorem dX11_kth_44 : decode cX11_kth 44 = .ok (.iload_n 3, 1) := by decide +kernel
theorem dX11_kth_45 : decode cX11_kth 45 = .ok (.ifCond .ne 8, 3) := by decide +kernel
theorem dX11_kth_48 : decode cX11_kth 48 = .ok (.iload 4, 2) := by decide +kernel
theorem dX11_kth_50 : decode cX11_kth 50 = .ok (.goto 12, 3) := by decide +kernel
theorem dX11_kth_53 : decode cX11_kth 53 = .ok (.aload_n 0, 1) := by decide +kernel
theorem dX11_kth_54 : decode cX11_kth 54 = .ok (.getfield 74, 3) := by decide +kernel
theorem dX11_kth_57 : decode cX11_kth 57 = .ok (.iload 4, 2) := by decide +kernel
theorem dX11_kth_59 : decode cX11_kth 59 = .ok (.invokevirtual 314, 3) := by decide +kernel
theorem dX11_kth_62 : decode cX11_kth 62 = .ok (.ireturn, 1) := by decide +kernel
set_option maxRecDepth 20000 in
theorem ggX11_slack_X4_has : GoodIn wsX11_slack wsX4_has := goodIn_r _ [7, 8, 180, 181, 182] (by decide +kernel) (by decide +kernel)
set_option maxRecDepth 20000 in
theorem gX11_slack_X4_has : GoodIn wsX11_slack (wsV RX11 251 RX4 yX4_has wsX4_has) := goodIn_app (goodIn_of _ (by decide +kernel)) ggX11_slack_X4_has
set_option maxRecDepth 20000 in
theorem ggX11_slack_X1_slackSum : GoodIn wsX11_slack wsX1_slackSum := goodIn_r _ [13, 14, 15, 16, 17, 18, 19, 20, 21, 22, 23, 24, 25, 26, 27, 28, 29, 30, 31, 32, 33, 34, 35, 36, 37, 38, 39, 40, 41, 6, 42, 43, 44, 4, 5, 7, 8, 45, 46, 47, 48, 49, 50, 51, 52, 53, 54, 55, 56, 57, 58, 59, 60, 61, 62, 63, 64, 65, 66, 67, 68, 69, 70, 71, 72, 73, 74, 75, 76, 77, 78, 79, 80, 81, 82, 83, 84, 85, 86, 87, 88, 89, 90, 91, 92, 93, 94, 95, 96, 97, 98, 99, 100, 101, 102, 103, 104, 105, 106, 107, 108, 109, 110, 111, 112, 113, 114, 115, 116, 117, 118, 119, 120, 121, 122, 123, 124, 125, 126, 127, 128, 129, 130, 131, 132, 133, 134, 135, 136, 137, 138, 139, 140, 141, 142, 143, 144, 145, 146, 147, 148, 149, 150, 151, 152, 153, 154, 155, 156, 157, 158, 159, 160, 161, 162, 163, 164, 165, 166, 167, 168, 169, 183, 184, 185, 186, 187, 188, 189, 190, 191, 192, 193, 194, 195, 196, 197, 198, 199, 200, 201, 202, 203, 204, 205, 206, 207, 208, 209, 210, 211, 212, 180, 181, 182] (by decide +kernel) (by decide +kernel)
set_option maxRecDepth 20000 in
theorem gX11_slack_X1_slackSum : GoodIn wsX11_slack (wsV RX11 317 RX1 yX1_slackSum wsX1_slackSum) := goodIn_app (goodIn_of _ (by decide +kernel)) ggX11_slack_X1_slackSum
theorem dX11_slack_0 : decode cX11_slack 0 = .ok (.aload_n 0, 1) := by decide +kernel
theorem dX11_slack_1 : decode cX11_slack 1 = .ok (.getfield 35, 3) := by decide +kernel
theorem dX11_slack_4 : decode cX11_slack 4 = .ok (.iload_n 1, 1) := by decide +kernel
theorem dX11_slack_5 : decode cX11_slack 5 = .ok (.invokevirtual 251, 3) := by decide +kernel
theorem dX11_slack_8 : decode cX11_slack 8 = .ok (.ifCond .eq 14, 3) := by decide +kernel
theorem dX11_slack_11 : decode cX11_slack 11 = .ok (.aload_n 0, 1) := by decide +kernel
theorem dX11_slack_12 : decode cX11_slack 12 = .ok (.getfield 74, 3) := by decide +kernel
theorem dX11_slack_15 : decode cX11_slack 15 = .ok (.iload_n 1, 1) := by decide +kernel
theorem dX11_slack_16 : decode cX11_slack 16 = .ok (.invokevirtual 317, 3) := by decide +kernel
theorem dX11_slack_19 : decode cX11_slack 19 = .ok (.goto 4, 3) := by decide +kernel
theorem dX11_slack_22 : decode cX11_slack 22 = .ok (.iconst (-1), 1) := by decide +kernel
theorem dX11_slack_23 : decode cX11_slack 23 = .ok (.ireturn, 1) := by decide +kernel
set_option maxRecDepth 20000 in
theorem ggX11_turns_X4_has : GoodIn wsX11_turns wsX4_has := goodIn_r _ [7, 8, 163, 164, 165] (by decide +kernel) (by decide +kernel)
set_option maxRecDepth 20000 in
theorem gX11_turns_X4_has : GoodIn wsX11_turns (wsV RX11 251 RX4 yX4_has wsX4_has) := goodIn_app (goodIn_of _ (by decide +kernel)) ggX11_turns_X4_has
set_option maxRecDepth 20000 in
theorem ggX11_turns_X1_scan : GoodIn wsX11_turns wsX1_scan := goodIn_r _ [13, 14, 15, 16, 17, 18, 19, 20, 21, 22, 23, 24, 25, 26, 27, 28, 29, 30, 31, 32, 33, 34, 35, 36, 37, 6, 38, 39, 40, 4, 5, 7, 8, 41, 42, 43, 44, 45, 46, 47, 48, 49, 50, 51, 52, 53, 54, 55, 56, 57, 58, 59, 60, 61, 62, 63, 64, 65, 66, 67, 68, 69, 70, 71, 72, 73, 74, 75, 76, 77, 78, 79, 80, 81, 82, 83, 84, 85, 86, 87, 88, 89, 90, 91, 92, 93, 94, 95, 96, 97, 98, 99, 100, 101, 102, 103, 104, 105, 106, 107, 108, 109, 110, 111, 112, 113, 114, 115, 116, 117, 118, 119, 120, 121, 122, 123, 124, 125, 126, 127, 128, 129, 130, 131, 132, 133, 134, 135, 136, 137, 138, 139, 140, 141, 142, 143, 144, 145, 146, 147, 148, 166, 167, 168, 169, 170, 171, 172, 173, 174, 175, 176, 177, 178, 179, 180, 181, 182, 183, 184, 185, 186, 187, 188, 189, 190, 191, 192, 163, 164, 165, 193, 194, 195] (by decide +kernel) (by decide +kernel)
set_option maxRecDepth 20000 in
theorem gX11_turns_X1_scan : GoodIn wsX11_turns (wsV RX11 305 RX1 yX1_scan wsX1_scan) := goodIn_app (goodIn_of _ (by decide +kernel)) ggX11_turns_X1_scan
set_option maxRecDepth 20000 in
theorem ggX11_turns_X1_turnCount : GoodIn wsX11_turns wsX1_turnCount := goodIn_r _ [152, 16, 166, 167, 168, 169, 170, 171, 172, 173, 174, 175, 176] (by decide +kernel) (by decide +kernel)
set_option maxRecDepth 20000 in
theorem gX11_turns_X1_turnCount : GoodIn wsX11_turns (wsV RX11 320 RX1 yX1_turnCount wsX1_turnCount) := goodIn_app (goodIn_of _ (by decide +kernel)) ggX11_turns_X1_turnCount
theorem dX11_turns_0 : decode cX11_turns 0 = .ok (.aload_n 0, 1) := by decide +kernel
theorem dX11_turns_1 : decode cX11_turns 1 = .ok (.getfield 35, 3) := by decide +kernel
theorem dX11_turns_4 : decode cX11_turns 4 = .ok (.iload_n 1, 1) := by decide +kernel
theorem dX11_turns_5 : decode cX11_turns 5 = .ok (.invokevirtual 251, 3) := by decide +kernel
theorem dX11_turns_8 : decode cX11_turns 8 = .ok (.ifCond .ne 5, 3) := by decide +kernel
theorem dX11_turns_11 : decode cX11_turns 11 = .ok (.iconst (-1), 1) := by decide +kernel
theorem dX11_turns_12 : decode cX11_turns 12 = .ok (.ireturn, 1) := by decide +kernel
theorem dX11_turns_13 : decode cX11_turns 13 = .ok (.aload_n 0, 1) := by decide +kernel
theorem dX11_turns_14 : decode cX11_turns 14 = .ok (.getfield 74, 3) := by decide +kernel
theorem dX11_turns_17 : decode cX11_turns 17 = .ok (.iload_n 1, 1) := by decide +kernel
theorem dX11_turns_18 : decode cX11_turns 18 = .ok (.invokevirtual 305, 3) := by decide +kernel
theorem dX11_turns_21 : decode cX11_turns 21 = .ok (.aload_n 0, 1) := by decide +kernel
theorem dX11_turns_22 : decode cX11_turns 22 = .ok (.getfield 74, 3) := by decide +kernel
theorem dX11_turns_25 : decode cX11_turns 25 = .ok (.invokevirtual 320, 3) := by decide +kernel
theorem dX11_turns_28 : decode cX11_turns 28 = .ok (.ireturn, 1) := by decide +kernel
theorem dX11_isStretch_0 : decode cX11_isStretch 0 = .ok (.iload_n 0, 1) := by decide +kernel
theorem dX11_isStretch_1 : decode cX11_isStretch 1 = .ok (.iconst 2, 1) := by decide +kernel
theorem dX11_isStretch_2 : decode cX11_isStretch 2 = .ok (.if_icmp .lt 13, 3) := by decide +kernel
theorem dX11_isStretch_5 : decode cX11_isStretch 5 = .ok (.iload_n 0, 1) := by decide +kernel
theorem dX11_isStretch_6 : decode cX11_isStretch 6 = .ok (.bipush 16, 2) := by decide +kernel
theorem dX11_isStretch_8 : decode cX11_isStretch 8 = .ok (.if_icmp .gt 7, 3) := by decide +kernel
theorem dX11_isStretch_11 : decode cX11_isStretch 11 = .ok (.iconst 1, 1) := by decide +kernel
theorem dX11_isStretch_12 : decode cX11_isStretch 12 = .ok (.goto 4, 3) := by decide +kernel
theorem dX11_isStretch_15 : decode cX11_isStretch 15 = .ok (.iconst 0, 1) := by decide +kernel
theorem dX11_isStretch_16 : decode cX11_isStretch 16 = .ok (.ireturn, 1) := by decide +kernel
set_option maxRecDepth 20000 in
theorem ggX11_near_X11_isStretch : GoodIn wsX11_near wsX11_isStretch := goodIn_r _ [8] (by decide +kernel) (by decide +kernel)
set_option maxRecDepth 20000 in
theorem gX11_near_X11_isStretch : GoodIn wsX11_near (va_wsS RX11 196 yX11_isStretch wsX11_isStretch) := goodIn_app (goodIn_of _ (by decide +kernel)) ggX11_near_X11_isStretch
set_option maxRecDepth 20000 in
theorem ggX11_near_X6_hasWindow : GoodIn wsX11_near wsX6_hasWindow := goodIn_r _ [13, 14, 15, 16, 17, 12, 18, 19, 20, 21, 22, 23, 24, 181, 182, 183] (by decide +kernel) (by decide +kernel)
set_option maxRecDepth 20000 in
theorem gX11_near_X6_hasWindow : GoodIn wsX11_near (wsV RX11 183 RX6 yX6_hasWindow wsX6_hasWindow) := goodIn_app (goodIn_of _ (by decide +kernel)) ggX11_near_X6_hasWindow
set_option maxRecDepth 20000 in
theorem ggX11_near_X9_findNear : GoodIn wsX11_near wsX9_findNear := goodIn_r _ [29, 30, 31, 32, 28, 33, 34, 35, 36, 37, 38, 39, 10, 11, 12, 13, 14, 15, 16, 17, 18, 19, 20, 21, 22, 23, 24, 40, 41, 42, 43, 44, 45, 46, 47, 48, 49, 50, 51, 52, 53, 54, 55, 56, 57, 58, 59, 60, 61, 62, 63, 64, 65, 66, 67, 68, 69, 70, 71, 72, 73, 74, 75, 76, 77, 78, 79, 80, 81, 82, 83, 84, 85, 86, 87, 88, 89, 90, 91, 92, 93, 94, 95, 96, 97, 98, 99, 100, 101, 102, 103, 104, 105, 106, 107, 108, 109, 110, 111, 112, 113, 114, 115, 116, 117, 118, 119, 120, 121, 122, 123, 124, 125, 126, 127, 128, 129, 130, 131, 132, 133, 134, 135, 136, 137, 138, 139, 140, 141, 142, 143, 144, 145, 146, 147, 148, 149, 150, 151, 152, 153, 154, 155, 156, 157, 158, 159, 170, 171, 172, 173, 174, 175, 176, 177, 178, 179, 180, 184, 185, 186, 187, 188, 181, 182, 183, 189, 190, 191, 192, 193, 194, 195, 196, 197, 198, 199] (by decide +kernel) (by decide +kernel)
set_option maxRecDepth 20000 in
theorem gX11_near_X9_findNear : GoodIn wsX11_near (wsV RX11 323 RX9 yX9_findNear wsX9_findNear) := goodIn_app (goodIn_of _ (by decide +kernel)) ggX11_near_X9_findNear
theorem dX11_near_0 : decode cX11_near 0 = .ok (.iload_n 2, 1) := by decide +kernel
theorem dX11_near_1 : decode cX11_near 1 = .ok (.invokestatic 196, 3) := by decide +kernel
theorem dX11_near_4 : decode cX11_near 4 = .ok (.ifCond .eq 24, 3) := by decide +kernel
theorem dX11_near_7 : decode cX11_near 7 = .ok (.iload_n 3, 1) := by decide +kernel
theorem dX11_near_8 : decode cX11_near 8 = .ok (.ifCond .lt 20, 3) := by decide +kernel
theorem dX11_near_11 : decode cX11_near 11 = .ok (.iload_n 3, 1) := by decide +kernel
theorem dX11_near_12 : decode cX11_near 12 = .ok (.iconst 1, 1) := by decide +kernel
theorem dX11_near_13 : decode cX11_near 13 = .ok (.if_icmp .gt 15, 3) := by decide +kernel
theorem dX11_near_16 : decode cX11_near 16 = .ok (.aload_n 0, 1) := by decide +kernel
theorem dX11_near_17 : decode cX11_near 17 = .ok (.getfield 28, 3) := by decide +kernel
theorem dX11_near_20 : decode cX11_near 20 = .ok (.iload_n 1, 1) := by decide +kernel
theorem dX11_near_21 : decode cX11_near 21 = .ok (.iload_n 2, 1) := by decide +kernel
theorem dX11_near_22 : decode cX11_near 22 = .ok (.invokevirtual 183, 3) := by decide +kernel
theorem dX11_near_25 : decode cX11_near 25 = .ok (.ifCond .ne 5, 3) := by decide +kernel
theorem dX11_near_28 : decode cX11_near 28 = .ok (.iconst (-1), 1) := by decide +kernel
theorem dX11_near_29 : decode cX11_near 29 = .ok (.ireturn, 1) := by decide +kernel
theorem dX11_near_30 : decode cX11_near 30 = .ok (.aload_n 0, 1) := by decide +kernel
theorem dX11_near_31 : decode cX11_near 31 = .ok (.getfield 81, 3) := by decide +kernel
theorem dX11_near_34 : decode cX11_near 34 = .ok (.iload_n 1, 1) := by decide +kernel
theorem dX11_near_35 : decode cX11_near 35 = .ok (.iload_n 2, 1) := by decide +kernel
theorem dX11_near_36 : decode cX11_near 36 = .ok (.invokevirtual 323, 3) := by decide +kernel
theorem dX11_near_39 : decode cX11_near 39 = .ok (.iload_n 3, 1) := by decide +kernel
theorem dX11_near_40 : decode cX11_near 40 = .ok (.ifCond .ne 13, 3) := by decide +kernel
theorem dX11_near_43 : decode cX11_near 43 = .ok (.aload_n 0, 1) := by decide +kernel
theorem dX11_near_44 : decode cX11_near 44 = .ok (.getfield 81, 3) := by decide +kernel
theorem dX11_near_47 : decode cX11_near 47 = .ok (.getfield 326, 3) := by decide +kernel
theorem dX11_near_50 : decode cX11_near 50 = .ok (.goto 10, 3) := by decide +kernel
theorem dX11_near_53 : decode cX11_near 53 = .ok (.aload_n 0, 1) := by decide +kernel
theorem dX11_near_54 : decode cX11_near 54 = .ok (.getfield 81, 3) := by decide +kernel
theorem dX11_near_57 : decode cX11_near 57 = .ok (.getfield 329, 3) := by decide +kernel
theorem dX11_near_60 : decode cX11_near 60 = .ok (.ireturn, 1) := by decide +kernel
set_option maxRecDepth 20000 in
theorem ggX11_pair_X11_isStretch : GoodIn wsX11_pair wsX11_isStretch := goodIn_r _ [8] (by decide +kernel) (by decide +kernel)
set_option maxRecDepth 20000 in
theorem gX11_pair_X11_isStretch : GoodIn wsX11_pair (va_wsS RX11 196 yX11_isStretch wsX11_isStretch) := goodIn_app (goodIn_of _ (by decide +kernel)) ggX11_pair_X11_isStretch
set_option maxRecDepth 20000 in
theorem ggX11_pair_X9_findPair : GoodIn wsX11_pair wsX9_findPair := goodIn_r _ [13, 14, 15, 16, 17, 18, 19, 20, 21, 22, 12, 23, 24, 25, 26, 27, 28, 29, 30, 31, 32, 33, 34, 35, 36, 37, 38, 39, 40, 41, 42, 43, 44, 45, 46, 47, 48, 49, 50, 51, 52, 53, 54, 55, 56, 57, 58, 59, 60, 61, 62, 63, 64, 65, 66, 67, 68, 69, 70, 71, 72, 73, 74, 75, 76, 77, 78, 79, 80, 81, 82, 83, 84, 85, 86, 87, 88, 89, 90, 91, 92, 93, 94, 95, 96, 97, 98, 99, 100, 101, 102, 103, 104, 105, 106, 107, 108, 109, 110, 111, 112, 113, 114, 115, 116, 117, 118, 119, 120, 121, 122, 123, 124, 125, 126, 127, 128, 129, 130, 131, 132, 133, 134, 135, 136, 137, 138, 139, 140, 141, 142, 143, 144, 145, 146, 147, 148, 149, 150, 151, 152, 153, 154, 155, 156, 167, 168, 169, 170, 171, 172, 173, 174, 175, 176, 177, 178, 179, 180, 181, 182, 183, 184, 185, 186, 187, 188, 189, 190, 191, 192, 193, 194, 195, 196] (by decide +kernel) (by decide +kernel)
set_option maxRecDepth 20000 in
theorem gX11_pair_X9_findPair : GoodIn wsX11_pair (wsV RX11 332 RX9 yX9_findPair wsX9_findPair) := goodIn_app (goodIn_of _ (by decide +kernel)) ggX11_pair_X9_findPair
theorem dX11_pair_0 : decode cX11_pair 0 = .ok (.iload_n 1, 1) := by decide +kernel
theorem dX11_pair_1 : decode cX11_pair 1 = .ok (.invokestatic 196, 3) := by decide +kernel
theorem dX11_pair_4 : decode cX11_pair 4 = .ok (.ifCond .eq 12, 3) := by decide +kernel
theorem dX11_pair_7 : decode cX11_pair 7 = .ok (.iload_n 2, 1) := by decide +kernel
theorem dX11_pair_8 : decode cX11_pair 8 = .ok (.ifCond .lt 8, 3) := by decide +kernel
theorem dX11_pair_11 : decode cX11_pair 11 = .ok (.iload_n 2, 1) := by decide +kernel
theorem dX11_pair_12 : decode cX11_pair 12 = .ok (.iconst 2, 1) := by decide +kernel
theorem dX11_pair_13 : decode cX11_pair 13 = .ok (.if_icmp .le 5, 3) := by decide +kernel
theorem dX11_pair_16 : decode cX11_pair 16 = .ok (.iconst (-1), 1) := by decide +kernel
theorem dX11_pair_17 : decode cX11_pair 17 = .ok (.ireturn, 1) := by decide +kernel
theorem dX11_pair_18 : decode cX11_pair 18 = .ok (.aload_n 0, 1) := by decide +kernel
theorem dX11_pair_19 : decode cX11_pair 19 = .ok (.getfield 81, 3) := by decide +kernel
theorem dX11_pair_22 : decode cX11_pair 22 = .ok (.iload_n 1, 1) := by decide +kernel
theorem dX11_pair_23 : decode cX11_pair 23 = .ok (.invokevirtual 332, 3) := by decide +kernel
theorem dX11_pair_26 : decode cX11_pair 26 = .ok (.iload_n 2, 1) := by decide +kernel
theorem dX11_pair_27 : decode cX11_pair 27 = .ok (.iconst 2, 1) := by decide +kernel
theorem dX11_pair_28 : decode cX11_pair 28 = .ok (.if_icmp .ne 11, 3) := by decide +kernel
theorem dX11_pair_31 : decode cX11_pair 31 = .ok (.aload_n 0, 1) := by decide +kernel
theorem dX11_pair_32 : decode cX11_pair 32 = .ok (.getfield 81, 3) := by decide +kernel
theorem dX11_pair_35 : decode cX11_pair 35 = .ok (.getfield 335, 3) := by decide +kernel
theorem dX11_pair_38 : decode cX11_pair 38 = .ok (.ireturn, 1) := by decide +kernel
theorem dX11_pair_39 : decode cX11_pair 39 = .ok (.iload_n 2, 1) := by decide +kernel
theorem dX11_pair_40 : decode cX11_pair 40 = .ok (.ifCond .ne 13, 3) := by decide +kernel
theorem dX11_pair_43 : decode cX11_pair 43 = .ok (.aload_n 0, 1) := by decide +kernel
theorem dX11_pair_44 : decode cX11_pair 44 = .ok (.getfield 81, 3) := by decide +kernel
theorem dX11_pair_47 : decode cX11_pair 47 = .ok (.getfield 338, 3) := by decide +kernel
theorem dX11_pair_50 : decode cX11_pair 50 = .ok (.goto 10, 3) := by decide +kernel
theorem dX11_pair_53 : decode cX11_pair 53 = .ok (.aload_n 0, 1) := by decide +kernel
theorem dX11_pair_54 : decode cX11_pair 54 = .ok (.getfield 81, 3) := by decide +kernel
theorem dX11_pair_57 : decode cX11_pair 57 = .ok (.getfield 341, 3) := by decide +kernel
theorem dX11_pair_60 : decode cX11_pair 60 = .ok (.ireturn, 1) := by decide +kernel
set_option maxRecDepth 20000 in
theorem ggX11_odd_X11_isStretch : GoodIn wsX11_odd wsX11_isStretch := goodIn_r _ [7] (by decide +kernel) (by decide +kernel)
set_option maxRecDepth 20000 in
theorem gX11_odd_X11_isStretch : GoodIn wsX11_odd (va_wsS RX11 196 yX11_isStretch wsX11_isStretch) := goodIn_app (goodIn_of _ (by decide +kernel)) ggX11_odd_X11_isStretch
set_option maxRecDepth 20000 in
theorem ggX11_odd_X9_findOdd : GoodIn wsX11_odd wsX9_findOdd := goodIn_r _ [12, 13, 14, 15, 16, 17, 18, 19, 20, 11, 21, 22, 23, 24, 25, 26, 27, 28, 29, 30, 31, 32, 33, 34, 35, 36, 37, 38, 39, 40, 41, 42, 43, 44, 45, 46, 47, 48, 49, 50, 51, 52, 53, 54, 55, 56, 57, 58, 59, 60, 61, 62, 63, 64, 65, 66, 67, 68, 69, 70, 71, 72, 73, 74, 75, 76, 77, 78, 79, 80, 81, 82, 83, 84, 85, 86, 87, 88, 89, 90, 91, 92, 93, 94, 95, 96, 97, 98, 99, 100, 101, 102, 103, 104, 105, 106, 107, 108, 109, 110, 111, 112, 113, 114, 115, 116, 117, 118, 119, 120, 121, 122, 123, 124, 125, 126, 127, 128, 129, 130, 131, 132, 133, 134, 135, 136, 137, 138, 139, 140, 141, 142, 143, 144, 145, 146, 147, 148, 149, 150, 151, 152, 153, 154, 155, 156, 157, 158, 159, 170, 171, 172, 173, 174, 175, 176, 177, 178, 179, 180, 181, 182, 183, 184, 185, 186, 187, 188, 189, 190, 191, 192, 193, 194, 195, 196, 197, 198, 199] (by decide +kernel) (by decide +kernel)
set_option maxRecDepth 20000 in
theorem gX11_odd_X9_findOdd : GoodIn wsX11_odd (wsV RX11 344 RX9 yX9_findOdd wsX9_findOdd) := goodIn_app (goodIn_of _ (by decide +kernel)) ggX11_odd_X9_findOdd
theorem dX11_odd_0 : decode cX11_odd 0 = .ok (.iload_n 1, 1) := by decide +kernel
theorem dX11_odd_1 : decode cX11_odd 1 = .ok (.invokestatic 196, 3) := by decide +kernel
theorem dX11_odd_4 : decode cX11_odd 4 = .ok (.ifCond .eq 12, 3) := by decide +kernel
theorem dX11_odd_7 : decode cX11_odd 7 = .ok (.iload_n 2, 1) := by decide +kernel
theorem dX11_odd_8 : decode cX11_odd 8 = .ok (.ifCond .lt 8, 3) := by decide +kernel
theorem dX11_odd_11 : decode cX11_odd 11 = .ok (.iload_n 2, 1) := by decide +kernel
theorem dX11_odd_12 : decode cX11_odd 12 = .ok (.iconst 1, 1) := by decide +kernel
theorem dX11_odd_13 : decode cX11_odd 13 = .ok (.if_icmp .le 5, 3) := by decide +kernel
theorem dX11_odd_16 : decode cX11_odd 16 = .ok (.iconst (-1), 1) := by decide +kernel
theorem dX11_odd_17 : decode cX11_odd 17 = .ok (.ireturn, 1) := by decide +kernel
theorem dX11_odd_18 : decode cX11_odd 18 = .ok (.aload_n 0, 1) := by decide +kernel
theorem dX11_odd_19 : decode cX11_odd 19 = .ok (.getfield 81, 3) := by decide +kernel
theorem dX11_odd_22 : decode cX11_odd 22 = .ok (.iload_n 1, 1) := by decide +kernel
theorem dX11_odd_23 : decode cX11_odd 23 = .ok (.invokevirtual 344, 3) := by decide +kernel
theorem dX11_odd_26 : decode cX11_odd 26 = .ok (.iload_n 2, 1) := by decide +kernel
theorem dX11_odd_27 : decode cX11_odd 27 = .ok (.ifCond .ne 13, 3) := by decide +kernel
theorem dX11_odd_30 : decode cX11_odd 30 = .ok (.aload_n 0, 1) := by decide +kernel
theorem dX11_odd_31 : decode cX11_odd 31 = .ok (.getfield 81, 3) := by decide +kernel
theorem dX11_odd_34 : decode cX11_odd 34 = .ok (.getfield 347, 3) := by decide +kernel
theorem dX11_odd_37 : decode cX11_odd 37 = .ok (.goto 10, 3) := by decide +kernel
theorem dX11_odd_40 : decode cX11_odd 40 = .ok (.aload_n 0, 1) := by decide +kernel
theorem dX11_odd_41 : decode cX11_odd 41 = .ok (.getfield 81, 3) := by decide +kernel
theorem dX11_odd_44 : decode cX11_odd 44 = .ok (.getfield 350, 3) := by decide +kernel
theorem dX11_odd_47 : decode cX11_odd 47 = .ok (.ireturn, 1) := by decide +kernel
set_option maxRecDepth 20000 in
theorem ggX11_flat_X6_flatWindows : GoodIn wsX11_flat wsX6_flatWindows := goodIn_r _ [6, 7, 8, 9, 10, 5, 11, 12, 13, 14, 15, 16, 17, 28, 29, 30] (by decide +kernel) (by decide +kernel)
set_option maxRecDepth 20000 in
theorem gX11_flat_X6_flatWindows : GoodIn wsX11_flat (wsV RX11 353 RX6 yX6_flatWindows wsX6_flatWindows) := goodIn_app (goodIn_of _ (by decide +kernel)) ggX11_flat_X6_flatWindows
theorem dX11_flat_0 : decode cX11_flat 0 = .ok (.iload_n 1, 1) := by decide +kernel
theorem dX11_flat_1 : decode cX11_flat 1 = .ok (.iconst 1, 1) := by decide +kernel
theorem dX11_flat_2 : decode cX11_flat 2 = .ok (.if_icmp .lt 10, 3) := by decide +kernel
theorem dX11_flat_5 : decode cX11_flat 5 = .ok (.iload_n 1, 1) := by decide +kernel
theorem dX11_flat_6 : decode cX11_flat 6 = .ok (.sipush 160, 3) := by decide +kernel
theorem dX11_flat_9 : decode cX11_flat 9 = .ok (.if_icmp .le 7, 3) := by decide +kernel
theorem dX11_flat_12 : decode cX11_flat 12 = .ok (.iconst (-1), 1) := by decide +kernel
theorem dX11_flat_13 : decode cX11_flat 13 = .ok (.goto 11, 3) := by decide +kernel
theorem dX11_flat_16 : decode cX11_flat 16 = .ok (.aload_n 0, 1) := by decide +kernel
theorem dX11_flat_17 : decode cX11_flat 17 = .ok (.getfield 28, 3) := by decide +kernel
theorem dX11_flat_20 : decode cX11_flat 20 = .ok (.iload_n 1, 1) := by decide +kernel
theorem dX11_flat_21 : decode cX11_flat 21 = .ok (.invokevirtual 353, 3) := by decide +kernel
theorem dX11_flat_24 : decode cX11_flat 24 = .ok (.ireturn, 1) := by decide +kernel
set_option maxRecDepth 20000 in
theorem ggX11_whole_X6_longestRunFirst : GoodIn wsX11_whole wsX6_longestRunFirst := goodIn_r _ [6, 7, 8, 9, 10, 5, 11, 12, 13, 14, 15, 16, 17, 18, 19, 20, 21, 33, 34, 35] (by decide +kernel) (by decide +kernel)
set_option maxRecDepth 20000 in
theorem gX11_whole_X6_longestRunFirst : GoodIn wsX11_whole (wsV RX11 356 RX6 yX6_longestRunFirst wsX6_longestRunFirst) := goodIn_app (goodIn_of _ (by decide +kernel)) ggX11_whole_X6_longestRunFirst
set_option maxRecDepth 20000 in
theorem ggX11_whole_X6_runFrom : GoodIn wsX11_whole wsX6_runFrom := goodIn_r _ [11, 7, 12, 13, 14, 5, 15, 16, 17, 18, 19, 20, 21, 33, 34, 35] (by decide +kernel) (by decide +kernel)
set_option maxRecDepth 20000 in
theorem gX11_whole_X6_runFrom : GoodIn wsX11_whole (wsV RX11 359 RX6 yX6_runFrom wsX6_runFrom) := goodIn_app (goodIn_of _ (by decide +kernel)) ggX11_whole_X6_runFrom
theorem dX11_whole_0 : decode cX11_whole 0 = .ok (.iload_n 1, 1) := by decide +kernel
theorem dX11_whole_1 : decode cX11_whole 1 = .ok (.ifCond .lt 8, 3) := by decide +kernel
theorem dX11_whole_4 : decode cX11_whole 4 = .ok (.iload_n 1, 1) := by decide +kernel
theorem dX11_whole_5 : decode cX11_whole 5 = .ok (.iconst 1, 1) := by decide +kernel
theorem dX11_whole_6 : decode cX11_whole 6 = .ok (.if_icmp .le 5, 3) := by decide +kernel
theorem dX11_whole_9 : decode cX11_whole 9 = .ok (.iconst (-1), 1) := by decide +kernel
theorem dX11_whole_10 : decode cX11_whole 10 = .ok (.ireturn, 1) := by decide +kernel
theorem dX11_whole_11 : decode cX11_whole 11 = .ok (.aload_n 0, 1) := by decide +kernel
theorem dX11_whole_12 : decode cX11_whole 12 = .ok (.getfield 28, 3) := by decide +kernel
theorem dX11_whole_15 : decode cX11_whole 15 = .ok (.invokevirtual 356, 3) := by decide +kernel
theorem dX11_whole_18 : decode cX11_whole 18 = .ok (.istore_n 2, 1) := by decide +kernel
theorem dX11_whole_19 : decode cX11_whole 19 = .ok (.iload_n 2, 1) := by decide +kernel
theorem dX11_whole_20 : decode cX11_whole 20 = .ok (.ifCond .lt 7, 3) := by decide +kernel
theorem dX11_whole_23 : decode cX11_whole 23 = .ok (.iload_n 1, 1) := by decide +kernel
theorem dX11_whole_24 : decode cX11_whole 24 = .ok (.ifCond .ne 5, 3) := by decide +kernel
theorem dX11_whole_27 : decode cX11_whole 27 = .ok (.iload_n 2, 1) := by decide +kernel
theorem dX11_whole_28 : decode cX11_whole 28 = .ok (.ireturn, 1) := by decide +kernel
theorem dX11_whole_29 : decode cX11_whole 29 = .ok (.aload_n 0, 1) := by decide +kernel
theorem dX11_whole_30 : decode cX11_whole 30 = .ok (.getfield 28, 3) := by decide +kernel
theorem dX11_whole_33 : decode cX11_whole 33 = .ok (.iload_n 2, 1) := by decide +kernel
theorem dX11_whole_34 : decode cX11_whole 34 = .ok (.invokevirtual 359, 3) := by decide +kernel
theorem dX11_whole_37 : decode cX11_whole 37 = .ok (.ireturn, 1) := by decide +kernel
set_option maxRecDepth 20000 in
theorem ggX11_hold_X6_copyInto : GoodIn wsX11_hold wsX6_copyInto := goodIn_r _ [10, 11, 12, 13, 14, 15, 9, 16, 17, 18, 19, 20, 21, 22, 23, 24, 25, 46, 47, 48, 49, 50, 51, 52] (by decide +kernel) (by decide +kernel)
set_option maxRecDepth 20000 in
theorem gX11_hold_X6_copyInto : GoodIn wsX11_hold (wsV RX11 362 RX6 yX6_copyInto wsX6_copyInto) := goodIn_app (goodIn_of _ (by decide +kernel)) ggX11_hold_X6_copyInto
set_option maxRecDepth 20000 in
theorem ggX11_hold_X7_takeFrom : GoodIn wsX11_hold wsX7_takeFrom := goodIn_r _ [30, 31, 32, 33, 34, 29, 35, 53] (by decide +kernel) (by decide +kernel)
set_option maxRecDepth 20000 in
theorem gX11_hold_X7_takeFrom : GoodIn wsX11_hold (wsV RX11 366 RX7 yX7_takeFrom wsX7_takeFrom) := goodIn_app (goodIn_of _ (by decide +kernel)) ggX11_hold_X7_takeFrom
theorem dX11_hold_0 : decode cX11_hold 0 = .ok (.iload_n 1, 1) := by decide +kernel
theorem dX11_hold_1 : decode cX11_hold 1 = .ok (.ifCond .lt 12, 3) := by decide +kernel
theorem dX11_hold_4 : decode cX11_hold 4 = .ok (.iload_n 1, 1) := by decide +kernel
theorem dX11_hold_5 : decode cX11_hold 5 = .ok (.aload_n 0, 1) := by decide +kernel
theorem dX11_hold_6 : decode cX11_hold 6 = .ok (.getfield 56, 3) := by decide +kernel
theorem dX11_hold_9 : decode cX11_hold 9 = .ok (.arraylength, 1) := by decide +kernel
theorem dX11_hold_10 : decode cX11_hold 10 = .ok (.if_icmp .lt 5, 3) := by decide +kernel
theorem dX11_hold_13 : decode cX11_hold 13 = .ok (.iconst 0, 1) := by decide +kernel
theorem dX11_hold_14 : decode cX11_hold 14 = .ok (.ireturn, 1) := by decide +kernel
theorem dX11_hold_15 : decode cX11_hold 15 = .ok (.aload_n 0, 1) := by decide +kernel
theorem dX11_hold_16 : decode cX11_hold 16 = .ok (.getfield 56, 3) := by decide +kernel
theorem dX11_hold_19 : decode cX11_hold 19 = .ok (.iload_n 1, 1) := by decide +kernel
theorem dX11_hold_20 : decode cX11_hold 20 = .ok (.aaload, 1) := by decide +kernel
theorem dX11_hold_21 : decode cX11_hold 21 = .ok (.astore_n 2, 1) := by decide +kernel
theorem dX11_hold_22 : decode cX11_hold 22 = .ok (.aload_n 0, 1) := by decide +kernel
theorem dX11_hold_23 : decode cX11_hold 23 = .ok (.getfield 28, 3) := by decide +kernel
theorem dX11_hold_26 : decode cX11_hold 26 = .ok (.aload_n 2, 1) := by decide +kernel
theorem dX11_hold_27 : decode cX11_hold 27 = .ok (.invokevirtual 362, 3) := by decide +kernel
theorem dX11_hold_30 : decode cX11_hold 30 = .ok (.aload_n 2, 1) := by decide +kernel
theorem dX11_hold_31 : decode cX11_hold 31 = .ok (.getfield 365, 3) := by decide +kernel
theorem dX11_hold_34 : decode cX11_hold 34 = .ok (.aload_n 0, 1) := by decide +kernel
theorem dX11_hold_35 : decode cX11_hold 35 = .ok (.getfield 42, 3) := by decide +kernel
theorem dX11_hold_38 : decode cX11_hold 38 = .ok (.invokevirtual 366, 3) := by decide +kernel
theorem dX11_hold_41 : decode cX11_hold 41 = .ok (.aload_n 2, 1) := by decide +kernel
theorem dX11_hold_42 : decode cX11_hold 42 = .ok (.iconst 1, 1) := by decide +kernel
theorem dX11_hold_43 : decode cX11_hold 43 = .ok (.putfield 110, 3) := by decide +kernel
theorem dX11_hold_46 : decode cX11_hold 46 = .ok (.iconst 1, 1) := by decide +kernel
theorem dX11_hold_47 : decode cX11_hold 47 = .ok (.ireturn, 1) := by decide +kernel
set_option maxRecDepth 20000 in
theorem ggX11_restore_X11_goOnFrom : GoodIn wsX11_restore wsX11_goOnFrom := goodIn_r _ [7, 8, 9, 10, 11, 12, 13, 14, 15, 16, 17, 18, 19, 20, 21, 22, 23, 24, 25, 26, 27, 28, 29, 30, 31, 32, 33, 34, 35, 36, 37, 38, 39, 40, 41, 42, 43, 44, 45, 46, 47, 48, 49, 50, 51, 52, 53, 54, 55, 56, 57, 58, 59, 60, 61, 62, 63, 64, 65, 66, 67, 68, 69, 70] (by decide +kernel) (by decide +kernel)
set_option maxRecDepth 20000 in
theorem gX11_restore_X11_goOnFrom : GoodIn wsX11_restore (wsV RX11 106 RX11 yX11_goOnFrom wsX11_goOnFrom) := goodIn_app (goodIn_of _ (by decide +kernel)) ggX11_restore_X11_goOnFrom
theorem dX11_restore_0 : decode cX11_restore 0 = .ok (.iload_n 1, 1) := by decide +kernel
theorem dX11_restore_1 : decode cX11_restore 1 = .ok (.ifCond .lt 24, 3) := by decide +kernel
theorem dX11_restore_4 : decode cX11_restore 4 = .ok (.iload_n 1, 1) := by decide +kernel
theorem dX11_restore_5 : decode cX11_restore 5 = .ok (.aload_n 0, 1) := by decide +kernel
theorem dX11_restore_6 : decode cX11_restore 6 = .ok (.getfield 56, 3) := by decide +kernel
theorem dX11_restore_9 : decode cX11_restore 9 = .ok (.arraylength, 1) := by decide +kernel
theorem dX11_restore_10 : decode cX11_restore 10 = .ok (.if_icmp .ge 15, 3) := by decide +kernel
theorem dX11_restore_13 : decode cX11_restore 13 = .ok (.aload_n 0, 1) := by decide +kernel
theorem dX11_restore_14 : decode cX11_restore 14 = .ok (.getfield 56, 3) := by decide +kernel
theorem dX11_restore_17 : decode cX11_restore 17 = .ok (.iload_n 1, 1) := by decide +kernel
theorem dX11_restore_18 : decode cX11_restore 18 = .ok (.aaload, 1) := by decide +kernel
theorem dX11_restore_19 : decode cX11_restore 19 = .ok (.getfield 110, 3) := by decide +kernel
theorem dX11_restore_22 : decode cX11_restore 22 = .ok (.ifCond .ne 5, 3) := by decide +kernel
theorem dX11_restore_25 : decode cX11_restore 25 = .ok (.iconst 0, 1) := by decide +kernel
theorem dX11_restore_26 : decode cX11_restore 26 = .ok (.ireturn, 1) := by decide +kernel
theorem dX11_restore_27 : decode cX11_restore 27 = .ok (.aload_n 0, 1) := by decide +kernel
theorem dX11_restore_28 : decode cX11_restore 28 = .ok (.aload_n 0, 1) := by decide +kernel
theorem dX11_restore_29 : decode cX11_restore 29 = .ok (.getfield 56, 3) := by decide +kernel
theorem dX11_restore_32 : decode cX11_restore 32 = .ok (.iload_n 1, 1) := by decide +kernel
theorem dX11_restore_33 : decode cX11_restore 33 = .ok (.aaload, 1) := by decide +kernel
theorem dX11_restore_34 : decode cX11_restore 34 = .ok (.invokevirtual 106, 3) := by decide +kernel
theorem dX11_restore_37 : decode cX11_restore 37 = .ok (.iconst 1, 1) := by decide +kernel
theorem dX11_restore_38 : decode cX11_restore 38 = .ok (.ireturn, 1) := by decide +kernel
set_option maxRecDepth 20000 in
theorem ggX11_goOnFrom_X6_takeFrom : GoodIn wsX11_goOnFrom wsX6_takeFrom := goodIn_r _ [9, 10, 11, 12, 13, 14, 15, 16, 17, 18, 19, 20, 21, 22, 8, 23, 24, 55, 56, 57, 51, 52, 53, 54] (by decide +kernel) (by decide +kernel)
set_option maxRecDepth 20000 in
theorem gX11_goOnFrom_X6_takeFrom : GoodIn wsX11_goOnFrom (wsV RX11 369 RX6 yX6_takeFrom wsX6_takeFrom) := goodIn_app (goodIn_of _ (by decide +kernel)) ggX11_goOnFrom_X6_takeFrom
set_option maxRecDepth 20000 in
theorem ggX11_goOnFrom_X7_takeFrom : GoodIn wsX11_goOnFrom wsX7_takeFrom := goodIn_r _ [29, 30, 31, 32, 33, 28, 34, 58] (by decide +kernel) (by decide +kernel)
set_option maxRecDepth 20000 in
theorem gX11_goOnFrom_X7_takeFrom : GoodIn wsX11_goOnFrom (wsV RX11 366 RX7 yX7_takeFrom wsX7_takeFrom) := goodIn_app (goodIn_of _ (by decide +kernel)) ggX11_goOnFrom_X7_takeFrom
set_option maxRecDepth 20000 in
theorem ggX11_goOnFrom_X3_forget : GoodIn wsX11_goOnFrom wsX3_forget := goodIn_r _ [39, 40, 59, 60, 61, 62, 63] (by decide +kernel) (by decide +kernel)
set_option maxRecDepth 20000 in
theorem gX11_goOnFrom_X3_forget : GoodIn wsX11_goOnFrom (wsV RX11 371 RX3 yX3_forget wsX3_forget) := goodIn_app (goodIn_of _ (by decide +kernel)) ggX11_goOnFrom_X3_forget
theorem dX11_goOnFrom_0 : decode cX11_goOnFrom 0 = .ok (.aload_n 0, 1) := by decide +kernel
theorem dX11_goOnFrom_1 : decode cX11_goOnFrom 1 = .ok (.getfield 28, 3) := by decide +kernel
theorem dX11_goOnFrom_4 : decode cX11_goOnFrom 4 = .ok (.aload_n 1, 1) := by decide +kernel
theorem dX11_goOnFrom_5 : decode cX11_goOnFrom 5 = .ok (.invokevirtual 369, 3) := by decide +kernel
theorem dX11_goOnFrom_8 : decode cX11_goOnFrom 8 = .ok (.aload_n 0, 1) := by decide +kernel
theorem dX11_goOnFrom_9 : decode cX11_goOnFrom 9 = .ok (.getfield 42, 3) := by decide +kernel
theorem dX11_goOnFrom_12 : decode cX11_goOnFrom 12 = .ok (.aload_n 1, 1) := by decide +kernel
theorem dX11_goOnFrom_13 : decode cX11_goOnFrom 13 = .ok (.getfield 365, 3) := by decide +kernel
theorem dX11_goOnFrom_16 : decode cX11_goOnFrom 16 = .ok (.invokevirtual 366, 3) := by decide +kernel
theorem dX11_goOnFrom_19 : decode cX11_goOnFrom 19 = .ok (.aload_n 0, 1) := by decide +kernel
theorem dX11_goOnFrom_20 : decode cX11_goOnFrom 20 = .ok (.getfield 49, 3) := by decide +kernel
theorem dX11_goOnFrom_23 : decode cX11_goOnFrom 23 = .ok (.invokevirtual 371, 3) := by decide +kernel
theorem dX11_goOnFrom_26 : decode cX11_goOnFrom 26 = .ok (.return_, 1) := by decide +kernel
theorem dX11_slotsHeld_0 : decode cX11_slotsHeld 0 = .ok (.iconst 0, 1) := by decide +kernel
theorem dX11_slotsHeld_1 : decode cX11_slotsHeld 1 = .ok (.istore_n 1, 1) := by decide +kernel
theorem dX11_slotsHeld_2 : decode cX11_slotsHeld 2 = .ok (.iconst 0, 1) := by decide +kernel
theorem dX11_slotsHeld_3 : decode cX11_slotsHeld 3 = .ok (.istore_n 2, 1) := by decide +kernel
theorem dX11_slotsHeld_4 : decode cX11_slotsHeld 4 = .ok (.iload_n 2, 1) := by decide +kernel
theorem dX11_slotsHeld_5 : decode cX11_slotsHeld 5 = .ok (.aload_n 0, 1) := by decide +kernel
theorem dX11_slotsHeld_6 : decode cX11_slotsHeld 6 = .ok (.getfield 56, 3) := by decide +kernel
theorem dX11_slotsHeld_9 : decode cX11_slotsHeld 9 = .ok (.arraylength, 1) := by decide +kernel
theorem dX11_slotsHeld_10 : decode cX11_slotsHeld 10 = .ok (.if_icmp .ge 24, 3) := by decide +kernel
theorem dX11_slotsHeld_13 : decode cX11_slotsHeld 13 = .ok (.aload_n 0, 1) := by decide +kernel
theorem dX11_slotsHeld_14 : decode cX11_slotsHeld 14 = .ok (.getfield 56, 3) := by decide +kernel
theorem dX11_slotsHeld_17 : decode cX11_slotsHeld 17 = .ok (.iload_n 2, 1) := by decide +kernel
theorem dX11_slotsHeld_18 : decode cX11_slotsHeld 18 = .ok (.aaload, 1) := by decide +kernel
theorem dX11_slotsHeld_19 : decode cX11_slotsHeld 19 = .ok (.getfield 110, 3) := by decide +kernel
theorem dX11_slotsHeld_22 : decode cX11_slotsHeld 22 = .ok (.ifCond .eq 6, 3) := by decide +kernel
theorem dX11_slotsHeld_25 : decode cX11_slotsHeld 25 = .ok (.iinc 1 1, 3) := by decide +kernel
theorem dX11_slotsHeld_28 : decode cX11_slotsHeld 28 = .ok (.iinc 2 1, 3) := by decide +kernel
theorem dX11_slotsHeld_31 : decode cX11_slotsHeld 31 = .ok (.goto (-27), 3) := by decide +kernel
theorem dX11_slotsHeld_34 : decode cX11_slotsHeld 34 = .ok (.iload_n 1, 1) := by decide +kernel
theorem dX11_slotsHeld_35 : decode cX11_slotsHeld 35 = .ok (.ireturn, 1) := by decide +kernel
set_option maxRecDepth 20000 in
theorem ggX11_count_X6_gapCount : GoodIn wsX11_count wsX6_gapCount := goodIn_r _ [14, 15, 16, 17, 18, 13, 19, 20, 21, 22, 23, 24, 25, 73, 74, 75] (by decide +kernel) (by decide +kernel)
set_option maxRecDepth 20000 in
theorem gX11_count_X6_gapCount : GoodIn wsX11_count (wsV RX11 374 RX6 yX6_gapCount wsX6_gapCount) := goodIn_app (goodIn_of _ (by decide +kernel)) ggX11_count_X6_gapCount
set_option maxRecDepth 20000 in
theorem ggX11_count_X7_valueOf : GoodIn wsX11_count wsX7_valueOf := goodIn_r _ [30, 31, 91] (by decide +kernel) (by decide +kernel)
set_option maxRecDepth 20000 in
theorem gX11_count_X7_valueOf : GoodIn wsX11_count (wsV RX11 154 RX7 yX7_valueOf wsX7_valueOf) := goodIn_app (goodIn_of _ (by decide +kernel)) ggX11_count_X7_valueOf
set_option maxRecDepth 20000 in
theorem ggX11_count_X6_readingsAtEnd : GoodIn wsX11_count wsX6_readingsAtEnd := goodIn_r _ [35, 15, 16, 17, 18, 13, 19, 20, 21, 22, 23, 24, 25, 73, 74, 75] (by decide +kernel) (by decide +kernel)
set_option maxRecDepth 20000 in
theorem gX11_count_X6_readingsAtEnd : GoodIn wsX11_count (wsV RX11 378 RX6 yX6_readingsAtEnd wsX6_readingsAtEnd) := goodIn_app (goodIn_of _ (by decide +kernel)) ggX11_count_X6_readingsAtEnd
set_option maxRecDepth 20000 in
theorem ggX11_count_X6_sumOf : GoodIn wsX11_count wsX6_sumOf := goodIn_r _ [39, 16, 17, 18, 13, 19, 20, 21, 22, 23, 15, 24, 25, 73, 74, 75] (by decide +kernel) (by decide +kernel)
set_option maxRecDepth 20000 in
theorem gX11_count_X6_sumOf : GoodIn wsX11_count (wsV RX11 187 RX6 yX6_sumOf wsX6_sumOf) := goodIn_app (goodIn_of _ (by decide +kernel)) ggX11_count_X6_sumOf
set_option maxRecDepth 20000 in
theorem ggX11_count_X11_slotsHeld : GoodIn wsX11_count wsX11_slotsHeld := goodIn_r _ [44, 45, 46, 63, 64, 65, 66, 67, 68, 69, 70, 71, 72, 92, 93, 94, 95] (by decide +kernel) (by decide +kernel)
set_option maxRecDepth 20000 in
theorem gX11_count_X11_slotsHeld : GoodIn wsX11_count (wsV RX11 382 RX11 yX11_slotsHeld wsX11_slotsHeld) := goodIn_app (goodIn_of _ (by decide +kernel)) ggX11_count_X11_slotsHeld
set_option maxRecDepth 20000 in
theorem ggX11_count_X6_greatestOf : GoodIn wsX11_count wsX6_greatestOf := goodIn_r _ [50, 51, 52, 53, 54, 20, 21, 22, 13, 23, 15, 24, 25, 73, 74, 75] (by decide +kernel) (by decide +kernel)
set_option maxRecDepth 20000 in
theorem gX11_count_X6_greatestOf : GoodIn wsX11_count (wsV RX11 193 RX6 yX6_greatestOf wsX6_greatestOf) := goodIn_app (goodIn_of _ (by decide +kernel)) ggX11_count_X6_greatestOf
set_option maxRecDepth 20000 in
theorem ggX11_count_X6_leastOf : GoodIn wsX11_count wsX6_leastOf := goodIn_r _ [58, 20, 21, 22, 13, 23, 15, 24, 25, 73, 74, 75] (by decide +kernel) (by decide +kernel)
set_option maxRecDepth 20000 in
theorem gX11_count_X6_leastOf : GoodIn wsX11_count (wsV RX11 190 RX6 yX6_leastOf wsX6_leastOf) := goodIn_app (goodIn_of _ (by decide +kernel)) ggX11_count_X6_leastOf
set_option maxRecDepth 20000 in
theorem ggX11_count_X6_runFrom : GoodIn wsX11_count wsX6_runFrom := goodIn_r _ [62, 15, 16, 17, 18, 13, 19, 20, 21, 22, 23, 24, 25, 73, 74, 75] (by decide +kernel) (by decide +kernel)
set_option maxRecDepth 20000 in
theorem gX11_count_X6_runFrom : GoodIn wsX11_count (wsV RX11 359 RX6 yX6_runFrom wsX6_runFrom) := goodIn_app (goodIn_of _ (by decide +kernel)) ggX11_count_X6_runFrom
theorem dX11_count_0 : decode cX11_count 0 = .ok (.iload_n 1, 1) := by decide +kernel
theorem dX11_count_1 : decode cX11_count 1 = .ok (.tableswitch 221 0 14 #[75, 83, 91, 99, 108, 117, 126, 135, 143, 151, 159, 175, 180, 196, 212], 75) := by decide +kernel
theorem dX11_count_76 : decode cX11_count 76 = .ok (.aload_n 0, 1) := by decide +kernel
theorem dX11_count_77 : decode cX11_count 77 = .ok (.getfield 28, 3) := by decide +kernel
theorem dX11_count_80 : decode cX11_count 80 = .ok (.getfield 138, 3) := by decide +kernel
theorem dX11_count_83 : decode cX11_count 83 = .ok (.ireturn, 1) := by decide +kernel
theorem dX11_count_84 : decode cX11_count 84 = .ok (.aload_n 0, 1) := by decide +kernel
theorem dX11_count_85 : decode cX11_count 85 = .ok (.getfield 28, 3) := by decide +kernel
theorem dX11_count_88 : decode cX11_count 88 = .ok (.invokevirtual 374, 3) := by decide +kernel
theorem dX11_count_91 : decode cX11_count 91 = .ok (.ireturn, 1) := by decide +kernel
theorem dX11_count_92 : decode cX11_count 92 = .ok (.aload_n 0, 1) := by decide +kernel
theorem dX11_count_93 : decode cX11_count 93 = .ok (.getfield 35, 3) := by decide +kernel
theorem dX11_count_96 : decode cX11_count 96 = .ok (.getfield 377, 3) := by decide +kernel
theorem dX11_count_99 : decode cX11_count 99 = .ok (.ireturn, 1) := by decide +kernel
theorem dX11_count_100 : decode cX11_count 100 = .ok (.aload_n 0, 1) := by decide +kernel
theorem dX11_count_101 : decode cX11_count 101 = .ok (.getfield 42, 3) := by decide +kernel
theorem dX11_count_104 : decode cX11_count 104 = .ok (.iconst 0, 1) := by decide +kernel
theorem dX11_count_105 : decode cX11_count 105 = .ok (.invokevirtual 154, 3) := by decide +kernel
theorem dX11_count_108 : decode cX11_count 108 = .ok (.ireturn, 1) := by decide +kernel
theorem dX11_count_109 : decode cX11_count 109 = .ok (.aload_n 0, 1) := by decide +kernel
theorem dX11_count_110 : decode cX11_count 110 = .ok (.getfield 42, 3) := by decide +kernel
theorem dX11_count_113 : decode cX11_count 113 = .ok (.iconst 1, 1) := by decide +kernel
theorem dX11_count_114 : decode cX11_count 114 = .ok (.invokevirtual 154, 3) := by decide +kernel
theorem dX11_count_117 : decode cX11_count 117 = .ok (.ireturn, 1) := by decide +kernel
theorem dX11_count_118 : decode cX11_count 118 = .ok (.aload_n 0, 1) := by decide +kernel
theorem dX11_count_119 : decode cX11_count 119 = .ok (.getfield 42, 3) := by decide +kernel
theorem dX11_count_122 : decode cX11_count 122 = .ok (.iconst 2, 1) := by decide +kernel
theorem dX11_count_123 : decode cX11_count 123 = .ok (.invokevirtual 154, 3) := by decide +kernel
theorem dX11_count_126 : decode cX11_count 126 = .ok (.ireturn, 1) := by decide +kernel
theorem dX11_count_127 : decode cX11_count 127 = .ok (.aload_n 0, 1) := by decide +kernel
theorem dX11_count_128 : decode cX11_count 128 = .ok (.getfield 42, 3) := by decide +kernel
theorem dX11_count_131 : decode cX11_count 131 = .ok (.iconst 3, 1) := by decide +kernel
theorem dX11_count_132 : decode cX11_count 132 = .ok (.invokevirtual 154, 3) := by decide +kernel
theorem dX11_count_135 : decode cX11_count 135 = .ok (.ireturn, 1) := by decide +kernel
theorem dX11_count_136 : decode cX11_count 136 = .ok (.aload_n 0, 1) := by decide +kernel
theorem dX11_count_137 : decode cX11_count 137 = .ok (.getfield 28, 3) := by decide +kernel
theorem dX11_count_140 : decode cX11_count 140 = .ok (.invokevirtual 378, 3) := by decide +kernel
theorem dX11_count_143 : decode cX11_count 143 = .ok (.ireturn, 1) := by decide +kernel
theorem dX11_count_144 : decode cX11_count 144 = .ok (.aload_n 0, 1) := by decide +kernel
theorem dX11_count_145 : decode cX11_count 145 = .ok (.getfield 10, 3) := by decide +kernel
theorem dX11_count_148 : decode cX11_count 148 = .ok (.getfield 85, 3) := by decide +kernel
theorem dX11_count_151 : decode cX11_count 151 = .ok (.ireturn, 1) := by decide +kernel
theorem dX11_count_152 : decode cX11_count 152 = .ok (.aload_n 0, 1) := by decide +kernel
theorem dX11_count_153 : decode cX11_count 153 = .ok (.getfield 49, 3) := by decide +kernel
theorem dX11_count_156 : decode cX11_count 156 = .ok (.getfield 381, 3) := by decide +kernel
theorem dX11_count_159 : decode cX11_count 159 = .ok (.ireturn, 1) := by decide +kernel
theorem dX11_count_160 : decode cX11_count 160 = .ok (.aload_n 0, 1) := by decide +kernel
theorem dX11_count_161 : decode cX11_count 161 = .ok (.getfield 28, 3) := by decide +kernel
theorem dX11_count_164 : decode cX11_count 164 = .ok (.iconst 0, 1) := by decide +kernel
theorem dX11_count_165 : decode cX11_count 165 = .ok (.aload_n 0, 1) := by decide +kernel
theorem dX11_count_166 : decode cX11_count 166 = .ok (.getfield 28, 3) := by decide +kernel
theorem dX11_count_169 : decode cX11_count 169 = .ok (.getfield 138, 3) := by decide +kernel
theorem dX11_count_172 : decode cX11_count 172 = .ok (.invokevirtual 187, 3) := by decide +kernel
theorem dX11_count_175 : decode cX11_count 175 = .ok (.ireturn, 1) := by decide +kernel
theorem dX11_count_176 : decode cX11_count 176 = .ok (.aload_n 0, 1) := by decide +kernel
theorem dX11_count_177 : decode cX11_count 177 = .ok (.invokevirtual 382, 3) := by decide +kernel
theorem dX11_count_180 : decode cX11_count 180 = .ok (.ireturn, 1) := by decide +kernel
theorem dX11_count_181 : decode cX11_count 181 = .ok (.aload_n 0, 1) := by decide +kernel
theorem dX11_count_182 : decode cX11_count 182 = .ok (.getfield 28, 3) := by decide +kernel
theorem dX11_count_185 : decode cX11_count 185 = .ok (.iconst 0, 1) := by decide +kernel
theorem dX11_count_186 : decode cX11_count 186 = .ok (.aload_n 0, 1) := by decide +kernel
theorem dX11_count_187 : decode cX11_count 187 = .ok (.getfield 28, 3) := by decide +kernel
theorem dX11_count_190 : decode cX11_count 190 = .ok (.getfield 138, 3) := by decide +kernel
theorem dX11_count_193 : decode cX11_count 193 = .ok (.invokevirtual 193, 3) := by decide +kernel
theorem dX11_count_196 : decode cX11_count 196 = .ok (.ireturn, 1) := by decide +kernel
theorem dX11_count_197 : decode cX11_count 197 = .ok (.aload_n 0, 1) := by decide +kernel
theorem dX11_count_198 : decode cX11_count 198 = .ok (.getfield 28, 3) := by decide +kernel
theorem dX11_count_201 : decode cX11_count 201 = .ok (.iconst 0, 1) := by decide +kernel
theorem dX11_count_202 : decode cX11_count 202 = .ok (.aload_n 0, 1) := by decide +kernel
theorem dX11_count_203 : decode cX11_count 203 = .ok (.getfield 28, 3) := by decide +kernel
theorem dX11_count_206 : decode cX11_count 206 = .ok (.getfield 138, 3) := by decide +kernel
theorem dX11_count_209 : decode cX11_count 209 = .ok (.invokevirtual 190, 3) := by decide +kernel
theorem dX11_count_212 : decode cX11_count 212 = .ok (.ireturn, 1) := by decide +kernel
theorem dX11_count_213 : decode cX11_count 213 = .ok (.aload_n 0, 1) := by decide +kernel
theorem dX11_count_214 : decode cX11_count 214 = .ok (.getfield 28, 3) := by decide +kernel
theorem dX11_count_217 : decode cX11_count 217 = .ok (.iconst 0, 1) := by decide +kernel
theorem dX11_count_218 : decode cX11_count 218 = .ok (.invokevirtual 359, 3) := by decide +kernel
theorem dX11_count_221 : decode cX11_count 221 = .ok (.ireturn, 1) := by decide +kernel
theorem dX11_count_222 : decode cX11_count 222 = .ok (.iconst (-1), 1) := by decide +kernel
theorem dX11_count_223 : decode cX11_count 223 = .ok (.ireturn, 1) := by decide +kernel
set_option maxRecDepth 20000 in
theorem ggX12_init_X12_plain : GoodIn wsX12_init wsX12_plain := goodIn_r _ [43, 16, 18, 21, 22, 23, 24, 60, 61, 62, 63, 64, 65, 66, 67, 68, 69, 70, 71, 72, 73, 74, 75, 76, 77, 78, 79, 80, 81, 82, 83, 84, 85, 86, 87, 88, 89, 90, 91, 92, 93, 94, 95, 96, 97, 98, 99, 100, 101, 102, 103, 104, 105, 106, 107, 108, 109, 110, 111, 112, 113, 114] (by decide +kernel) (by decide +kernel)
set_option maxRecDepth 20000 in
theorem gX12_init_X12_plain : GoodIn wsX12_init (wsV RX12 107 RX12 yX12_plain wsX12_plain) := goodIn_app (goodIn_of _ (by decide +kernel)) ggX12_init_X12_plain
set_option maxRecDepth 20000 in
theorem ggX12_init_X12_letters : GoodIn wsX12_init wsX12_letters := goodIn_r _ [46, 47, 48, 42, 49, 50] (by decide +kernel) (by decide +kernel)
set_option maxRecDepth 20000 in
theorem gX12_init_X12_letters : GoodIn wsX12_init (va_wsS RX12 114 yX12_letters wsX12_letters) := goodIn_app (goodIn_of _ (by decide +kernel)) ggX12_init_X12_letters
set_option maxRecDepth 20000 in
theorem ggX12_init_X12_begins : GoodIn wsX12_init wsX12_begins := goodIn_r _ [54, 26, 16, 55, 17, 21, 22, 23, 24, 60, 61, 62, 63, 64, 65, 66, 67, 68, 69, 70, 71, 72, 73, 74, 75, 76, 77, 78, 79, 80, 81, 82, 83, 84, 85, 86, 87, 88, 89, 90, 91, 92, 93, 94, 95, 96, 97, 98, 99, 100, 101, 102, 103, 104, 105, 106, 107, 108, 109, 110, 111, 112, 113, 114] (by decide +kernel) (by decide +kernel)
set_option maxRecDepth 20000 in
theorem gX12_init_X12_begins : GoodIn wsX12_init (wsV RX12 118 RX12 yX12_begins wsX12_begins) := goodIn_app (goodIn_of _ (by decide +kernel)) ggX12_init_X12_begins
set_option maxRecDepth 20000 in
theorem ggX12_init_X12_keepsRow : GoodIn wsX12_init wsX12_keepsRow := goodIn_r _ [59, 25, 26, 60, 61, 62, 63, 64, 65, 66, 67, 68, 69, 70, 71, 72, 73, 74, 75, 76, 77, 78, 79, 80, 81, 82, 83, 84, 85, 86, 87, 88, 89, 90, 91, 92, 93, 94, 95, 96, 97, 98, 99, 100, 101, 102, 103, 104, 105, 106, 107, 108, 109, 110, 111, 112, 113, 114] (by decide +kernel) (by decide +kernel)
set_option maxRecDepth 20000 in
theorem gX12_init_X12_keepsRow : GoodIn wsX12_init (wsV RX12 121 RX12 yX12_keepsRow wsX12_keepsRow) := goodIn_app (goodIn_of _ (by decide +kernel)) ggX12_init_X12_keepsRow
theorem dX12_init_0 : decode cX12_init 0 = .ok (.aload_n 0, 1) := by decide +kernel
theorem dX12_init_1 : decode cX12_init 1 = .ok (.invokespecial 7, 3) := by decide +kernel
theorem dX12_init_4 : decode cX12_init 4 = .ok (.aload_n 0, 1) := by decide +kernel
theorem dX12_init_5 : decode cX12_init 5 = .ok (.sipush 2000, 3) := by decide +kernel
theorem dX12_init_8 : decode cX12_init 8 = .ok (.newarray .byte, 2) := by decide +kernel
theorem dX12_init_10 : decode cX12_init 10 = .ok (.putfield 13, 3) := by decide +kernel
theorem dX12_init_13 : decode cX12_init 13 = .ok (.aload_n 0, 1) := by decide +kernel
theorem dX12_init_14 : decode cX12_init 14 = .ok (.sipush 2000, 3) := by decide +kernel
theorem dX12_init_17 : decode cX12_init 17 = .ok (.newarray .byte, 2) := by decide +kernel
theorem dX12_init_19 : decode cX12_init 19 = .ok (.putfield 17, 3) := by decide +kernel
theorem dX12_init_22 : decode cX12_init 22 = .ok (.aload_n 0, 1) := by decide +kernel
theorem dX12_init_23 : decode cX12_init 23 = .ok (.sipush 403, 3) := by decide +kernel
theorem dX12_init_26 : decode cX12_init 26 = .ok (.newarray .int, 2) := by decide +kernel
theorem dX12_init_28 : decode cX12_init 28 = .ok (.putfield 20, 3) := by decide +kernel
theorem dX12_init_31 : decode cX12_init 31 = .ok (.aload_n 0, 1) := by decide +kernel
theorem dX12_init_32 : decode cX12_init 32 = .ok (.sipush 403, 3) := by decide +kernel
theorem dX12_init_35 : decode cX12_init 35 = .ok (.newarray .int, 2) := by decide +kernel
theorem dX12_init_37 : decode cX12_init 37 = .ok (.putfield 24, 3) := by decide +kernel
theorem dX12_init_40 : decode cX12_init 40 = .ok (.aload_n 0, 1) := by decide +kernel
theorem dX12_init_41 : decode cX12_init 41 = .ok (.sipush 403, 3) := by decide +kernel
theorem dX12_init_44 : decode cX12_init 44 = .ok (.newarray .int, 2) := by decide +kernel
theorem dX12_init_46 : decode cX12_init 46 = .ok (.putfield 27, 3) := by decide +kernel
theorem dX12_init_49 : decode cX12_init 49 = .ok (.aload_n 0, 1) := by decide +kernel
theorem dX12_init_50 : decode cX12_init 50 = .ok (.sipush 403, 3) := by decide +kernel
theorem dX12_init_53 : decode cX12_init 53 = .ok (.newarray .long, 2) := by decide +kernel
theorem dX12_init_55 : decode cX12_init 55 = .ok (.putfield 30, 3) := by decide +kernel
theorem dX12_init_58 : decode cX12_init 58 = .ok (.aload_n 0, 1) := by decide +kernel
theorem dX12_init_59 : decode cX12_init 59 = .ok (.bipush 13, 2) := by decide +kernel
theorem dX12_init_61 : decode cX12_init 61 = .ok (.newarray .long, 2) := by decide +kernel
theorem dX12_init_63 : decode cX12_init 63 = .ok (.putfield 34, 3) := by decide +kernel
theorem dX12_init_66 : decode cX12_init 66 = .ok (.aload_n 0, 1) := by decide +kernel
theorem dX12_init_67 : decode cX12_init 67 = .ok (.iconst (-1), 1) := by decide +kernel
theorem dX12_init_68 : decode cX12_init 68 = .ok (.putfield 37, 3) := by decide +kernel
theorem dX12_init_71 : decode cX12_init 71 = .ok (.aload_n 0, 1) := by decide +kernel
theorem dX12_init_72 : decode cX12_init 72 = .ok (.iconst 5, 1) := by decide +kernel
theorem dX12_init_73 : decode cX12_init 73 = .ok (.newarray .long, 2) := by decide +kernel
theorem dX12_init_75 : decode cX12_init 75 = .ok (.putfield 40, 3) := by decide +kernel
theorem dX12_init_78 : decode cX12_init 78 = .ok (.aload_n 0, 1) := by decide +kernel
theorem dX12_init_79 : decode cX12_init 79 = .ok (.iconst 2, 1) := by decide +kernel
theorem dX12_init_80 : decode cX12_init 80 = .ok (.newarray .int, 2) := by decide +kernel
theorem dX12_init_82 : decode cX12_init 82 = .ok (.putfield 43, 3) := by decide +kernel
theorem dX12_init_85 : decode cX12_init 85 = .ok (.aload_n 0, 1) := by decide +kernel
theorem dX12_init_86 : decode cX12_init 86 = .ok (.sipush 320, 3) := by decide +kernel
theorem dX12_init_89 : decode cX12_init 89 = .ok (.newarray .int, 2) := by decide +kernel
theorem dX12_init_91 : decode cX12_init 91 = .ok (.putfield 46, 3) := by decide +kernel
theorem dX12_init_94 : decode cX12_init 94 = .ok (.aload_n 0, 1) := by decide +kernel
theorem dX12_init_95 : decode cX12_init 95 = .ok (.iconst 2, 1) := by decide +kernel
theorem dX12_init_96 : decode cX12_init 96 = .ok (.newarray .int, 2) := by decide +kernel
theorem dX12_init_98 : decode cX12_init 98 = .ok (.putfield 49, 3) := by decide +kernel
theorem dX12_init_101 : decode cX12_init 101 = .ok (.aload_n 0, 1) := by decide +kernel
theorem dX12_init_102 : decode cX12_init 102 = .ok (.bipush 10, 2) := by decide +kernel
theorem dX12_init_104 : decode cX12_init 104 = .ok (.newarray .int, 2) := by decide +kernel
theorem dX12_init_106 : decode cX12_init 106 = .ok (.putfield 52, 3) := by decide +kernel
theorem dX12_init_109 : decode cX12_init 109 = .ok (.aload_n 0, 1) := by decide +kernel
theorem dX12_init_110 : decode cX12_init 110 = .ok (.sipush 160, 3) := by decide +kernel
theorem dX12_init_113 : decode cX12_init 113 = .ok (.newarray .int, 2) := by decide +kernel
theorem dX12_init_115 : decode cX12_init 115 = .ok (.putfield 55, 3) := by decide +kernel
theorem dX12_init_118 : decode cX12_init 118 = .ok (.aload_n 0, 1) := by decide +kernel
theorem dX12_init_119 : decode cX12_init 119 = .ok (.iconst 2, 1) := by decide +kernel
theorem dX12_init_120 : decode cX12_init 120 = .ok (.newarray .int, 2) := by decide +kernel
theorem dX12_init_122 : decode cX12_init 122 = .ok (.putfield 58, 3) := by decide +kernel
theorem dX12_init_125 : decode cX12_init 125 = .ok (.aload_n 0, 1) := by decide +kernel
theorem dX12_init_126 : decode cX12_init 126 = .ok (.iconst 2, 1) := by decide +kernel
theorem dX12_init_127 : decode cX12_init 127 = .ok (.newarray .int, 2) := by decide +kernel
theorem dX12_init_129 : decode cX12_init 129 = .ok (.putfield 61, 3) := by decide +kernel
theorem dX12_init_132 : decode cX12_init 132 = .ok (.aload_n 0, 1) := by decide +kernel
theorem dX12_init_133 : decode cX12_init 133 = .ok (.iconst 2, 1) := by decide +kernel
theorem dX12_init_134 : decode cX12_init 134 = .ok (.newarray .int, 2) := by decide +kernel
theorem dX12_init_136 : decode cX12_init 136 = .ok (.putfield 64, 3) := by decide +kernel
theorem dX12_init_139 : decode cX12_init 139 = .ok (.aload_n 0, 1) := by decide +kernel
theorem dX12_init_140 : decode cX12_init 140 = .ok (.iconst 2, 1) := by decide +kernel
theorem dX12_init_141 : decode cX12_init 141 = .ok (.newarray .int, 2) := by decide +kernel
theorem dX12_init_143 : decode cX12_init 143 = .ok (.putfield 67, 3) := by decide +kernel
theorem dX12_init_146 : decode cX12_init 146 = .ok (.aload_n 0, 1) := by decide +kernel
theorem dX12_init_147 : decode cX12_init 147 = .ok (.sipush 165, 3) := by decide +kernel
theorem dX12_init_150 : decode cX12_init 150 = .ok (.newarray .int, 2) := by decide +kernel
theorem dX12_init_152 : decode cX12_init 152 = .ok (.putfield 70, 3) := by decide +kernel
theorem dX12_init_155 : decode cX12_init 155 = .ok (.aload_n 0, 1) := by decide +kernel
theorem dX12_init_156 : decode cX12_init 156 = .ok (.sipush 165, 3) := by decide +kernel
theorem dX12_init_159 : decode cX12_init 159 = .ok (.newarray .int, 2) := by decide +kernel
theorem dX12_init_161 : decode cX12_init 161 = .ok (.putfield 73, 3) := by decide +kernel
theorem dX12_init_164 : decode cX12_init 164 = .ok (.aload_n 0, 1) := by decide +kernel
theorem dX12_init_165 : decode cX12_init 165 = .ok (.bipush 16, 2) := by decide +kernel
theorem dX12_init_167 : decode cX12_init 167 = .ok (.newarray .int, 2) := by decide +kernel
theorem dX12_init_169 : decode cX12_init 169 = .ok (.putfield 76, 3) := by decide +kernel
theorem dX12_init_172 : decode cX12_init 172 = .ok (.aload_n 0, 1) := by decide +kernel
theorem dX12_init_173 : decode cX12_init 173 = .ok (.bipush 16, 2) := by decide +kernel
theorem dX12_init_175 : decode cX12_init 175 = .ok (.newarray .int, 2) := by decide +kernel
theorem dX12_init_177 : decode cX12_init 177 = .ok (.putfield 79, 3) := by decide +kernel
theorem dX12_init_180 : decode cX12_init 180 = .ok (.aload_n 0, 1) := by decide +kernel
theorem dX12_init_181 : decode cX12_init 181 = .ok (.sipush 256, 3) := by decide +kernel
theorem dX12_init_184 : decode cX12_init 184 = .ok (.newarray .int, 2) := by decide +kernel
theorem dX12_init_186 : decode cX12_init 186 = .ok (.putfield 82, 3) := by decide +kernel
theorem dX12_init_189 : decode cX12_init 189 = .ok (.aload_n 0, 1) := by decide +kernel
theorem dX12_init_190 : decode cX12_init 190 = .ok (.sipush 6600, 3) := by decide +kernel
theorem dX12_init_193 : decode cX12_init 193 = .ok (.newarray .int, 2) := by decide +kernel
theorem dX12_init_195 : decode cX12_init 195 = .ok (.putfield 85, 3) := by decide +kernel
theorem dX12_init_198 : decode cX12_init 198 = .ok (.aload_n 0, 1) := by decide +kernel
theorem dX12_init_199 : decode cX12_init 199 = .ok (.bipush 40, 2) := by decide +kernel
theorem dX12_init_201 : decode cX12_init 201 = .ok (.newarray .int, 2) := by decide +kernel
theorem dX12_init_203 : decode cX12_init 203 = .ok (.putfield 88, 3) := by decide +kernel
theorem dX12_init_206 : decode cX12_init 206 = .ok (.aload_n 0, 1) := by decide +kernel
theorem dX12_init_207 : decode cX12_init 207 = .ok (.sipush 160, 3) := by decide +kernel
theorem dX12_init_210 : decode cX12_init 210 = .ok (.newarray .int, 2) := by decide +kernel
theorem dX12_init_212 : decode cX12_init 212 = .ok (.putfield 91, 3) := by decide +kernel
theorem dX12_init_215 : decode cX12_init 215 = .ok (.aload_n 0, 1) := by decide +kernel
theorem dX12_init_216 : decode cX12_init 216 = .ok (.bipush 9, 2) := by decide +kernel
theorem dX12_init_218 : decode cX12_init 218 = .ok (.newarray .int, 2) := by decide +kernel
theorem dX12_init_220 : decode cX12_init 220 = .ok (.putfield 94, 3) := by decide +kernel
theorem dX12_init_223 : decode cX12_init 223 = .ok (.aload_n 0, 1) := by decide +kernel
theorem dX12_init_224 : decode cX12_init 224 = .ok (.sipush 160, 3) := by decide +kernel
theorem dX12_init_227 : decode cX12_init 227 = .ok (.newarray .int, 2) := by decide +kernel
theorem dX12_init_229 : decode cX12_init 229 = .ok (.putfield 97, 3) := by decide +kernel
theorem dX12_init_232 : decode cX12_init 232 = .ok (.aload_n 0, 1) := by decide +kernel
theorem dX12_init_233 : decode cX12_init 233 = .ok (.iconst 3, 1) := by decide +kernel
theorem dX12_init_234 : decode cX12_init 234 = .ok (.newarray .boolean, 2) := by decide +kernel
theorem dX12_init_236 : decode cX12_init 236 = .ok (.putfield 100, 3) := by decide +kernel
theorem dX12_init_239 : decode cX12_init 239 = .ok (.aload_n 0, 1) := by decide +kernel
theorem dX12_init_240 : decode cX12_init 240 = .ok (.sipush 495, 3) := by decide +kernel
theorem dX12_init_243 : decode cX12_init 243 = .ok (.newarray .int, 2) := by decide +kernel
theorem dX12_init_245 : decode cX12_init 245 = .ok (.putfield 104, 3) := by decide +kernel
theorem dX12_init_248 : decode cX12_init 248 = .ok (.aload_n 0, 1) := by decide +kernel
theorem dX12_init_249 : decode cX12_init 249 = .ok (.iconst 0, 1) := by decide +kernel
theorem dX12_init_250 : decode cX12_init 250 = .ok (.invokevirtual 107, 3) := by decide +kernel
theorem dX12_init_253 : decode cX12_init 253 = .ok (.aload_n 0, 1) := by decide +kernel
theorem dX12_init_254 : decode cX12_init 254 = .ok (.iconst 1, 1) := by decide +kernel
theorem dX12_init_255 : decode cX12_init 255 = .ok (.invokevirtual 107, 3) := by decide +kernel
theorem dX12_init_258 : decode cX12_init 258 = .ok (.aload_n 0, 1) := by decide +kernel
theorem dX12_init_259 : decode cX12_init 259 = .ok (.iconst (-1), 1) := by decide +kernel
theorem dX12_init_260 : decode cX12_init 260 = .ok (.putfield 111, 3) := by decide +kernel
theorem dX12_init_263 : decode cX12_init 263 = .ok (.aload_n 0, 1) := by decide +kernel
theorem dX12_init_264 : decode cX12_init 264 = .ok (.getfield 34, 3) := by decide +kernel
theorem dX12_init_267 : decode cX12_init 267 = .ok (.iconst 0, 1) := by decide +kernel
theorem dX12_init_268 : decode cX12_init 268 = .ok (.bipush 115, 2) := by decide +kernel
theorem dX12_init_270 : decode cX12_init 270 = .ok (.bipush 101, 2) := by decide +kernel
theorem dX12_init_272 : decode cX12_init 272 = .ok (.bipush 114, 2) := by decide +kernel
theorem dX12_init_274 : decode cX12_init 274 = .ok (.bipush 105, 2) := by decide +kernel
theorem dX12_init_276 : decode cX12_init 276 = .ok (.bipush 101, 2) := by decide +kernel
theorem dX12_init_278 : decode cX12_init 278 = .ok (.bipush 115, 2) := by decide +kernel
theorem dX12_init_280 : decode cX12_init 280 = .ok (.iconst 0, 1) := by decide +kernel
theorem dX12_init_281 : decode cX12_init 281 = .ok (.invokestatic 114, 3) := by decide +kernel
theorem dX12_init_284 : decode cX12_init 284 = .ok (.lastore, 1) := by decide +kernel
theorem dX12_init_285 : decode cX12_init 285 = .ok (.aload_n 0, 1) := by decide +kernel
theorem dX12_init_286 : decode cX12_init 286 = .ok (.getfield 34, 3) := by decide +kernel
theorem dX12_init_289 : decode cX12_init 289 = .ok (.iconst 1, 1) := by decide +kernel
theorem dX12_init_290 : decode cX12_init 290 = .ok (.bipush 113, 2) := by decide +kernel
theorem dX12_init_292 : decode cX12_init 292 = .ok (.bipush 117, 2) := by decide +kernel
theorem dX12_init_294 : decode cX12_init 294 = .ok (.bipush 101, 2) := by decide +kernel
theorem dX12_init_296 : decode cX12_init 296 = .ok (.bipush 114, 2) := by decide +kernel
theorem dX12_init_298 : decode cX12_init 298 = .ok (.bipush 121, 2) := by decide +kernel
theorem dX12_init_300 : decode cX12_init 300 = .ok (.iconst 0, 1) := by decide +kernel
theorem dX12_init_301 : decode cX12_init 301 = .ok (.iconst 0, 1) := by decide +kernel
theorem dX12_init_302 : decode cX12_init 302 = .ok (.invokestatic 114, 3) := by decide +kernel
theorem dX12_init_305 : decode cX12_init 305 = .ok (.lastore, 1) := by decide +kernel
theorem dX12_init_306 : decode cX12_init 306 = .ok (.aload_n 0, 1) := by decide +kernel
theorem dX12_init_307 : decode cX12_init 307 = .ok (.getfield 34, 3) := by decide +kernel
theorem dX12_init_310 : decode cX12_init 310 = .ok (.iconst 2, 1) := by decide +kernel
theorem dX12_init_311 : decode cX12_init 311 = .ok (.bipush 98, 2) := by decide +kernel
theorem dX12_init_313 : decode cX12_init 313 = .ok (.bipush 97, 2) := by decide +kernel
theorem dX12_init_315 : decode cX12_init 315 = .ok (.bipush 110, 2) := by decide +kernel
theorem dX12_init_317 : decode cX12_init 317 = .ok (.bipush 100, 2) := by decide +kernel
theorem dX12_init_319 : decode cX12_init 319 = .ok (.iconst 0, 1) := by decide +kernel
theorem dX12_init_320 : decode cX12_init 320 = .ok (.iconst 0, 1) := by decide +kernel
theorem dX12_init_321 : decode cX12_init 321 = .ok (.iconst 0, 1) := by decide +kernel
theorem dX12_init_322 : decode cX12_init 322 = .ok (.invokestatic 114, 3) := by decide +kernel
theorem dX12_init_325 : decode cX12_init 325 = .ok (.lastore, 1) := by decide +kernel
theorem dX12_init_326 : decode cX12_init 326 = .ok (.aload_n 0, 1) := by decide +kernel
theorem dX12_init_327 : decode cX12_init 327 = .ok (.getfield 34, 3) := by decide +kernel
theorem dX12_init_330 : decode cX12_init 330 = .ok (.iconst 3, 1) := by decide +kernel
theorem dX12_init_331 : decode cX12_init 331 = .ok (.bipush 108, 2) := by decide +kernel
theorem dX12_init_333 : decode cX12_init 333 = .ok (.bipush 101, 2) := by decide +kernel
theorem dX12_init_335 : decode cX12_init 335 = .ok (.bipush 118, 2) := by decide +kernel
theorem dX12_init_337 : decode cX12_init 337 = .ok (.bipush 101, 2) := by decide +kernel
theorem dX12_init_339 : decode cX12_init 339 = .ok (.bipush 108, 2) := by decide +kernel
theorem dX12_init_341 : decode cX12_init 341 = .ok (.iconst 0, 1) := by decide +kernel
theorem dX12_init_342 : decode cX12_init 342 = .ok (.iconst 0, 1) := by decide +kernel
theorem dX12_init_343 : decode cX12_init 343 = .ok (.invokestatic 114, 3) := by decide +kernel
theorem dX12_init_346 : decode cX12_init 346 = .ok (.lastore, 1) := by decide +kernel
theorem dX12_init_347 : decode cX12_init 347 = .ok (.aload_n 0, 1) := by decide +kernel
theorem dX12_init_348 : decode cX12_init 348 = .ok (.getfield 34, 3) := by decide +kernel
theorem dX12_init_351 : decode cX12_init 351 = .ok (.iconst 4, 1) := by decide +kernel
theorem dX12_init_352 : decode cX12_init 352 = .ok (.bipush 99, 2) := by decide +kernel
theorem dX12_init_354 : decode cX12_init 354 = .ok (.bipush 111, 2) := by decide +kernel
theorem dX12_init_356 : decode cX12_init 356 = .ok (.bipush 115, 2) := by decide +kernel
theorem dX12_init_358 : decode cX12_init 358 = .ok (.bipush 116, 2) := by decide +kernel
theorem dX12_init_360 : decode cX12_init 360 = .ok (.iconst 0, 1) := by decide +kernel
theorem dX12_init_361 : decode cX12_init 361 = .ok (.iconst 0, 1) := by decide +kernel
theorem dX12_init_362 : decode cX12_init 362 = .ok (.iconst 0, 1) := by decide +kernel
theorem dX12_init_363 : decode cX12_init 363 = .ok (.invokestatic 114, 3) := by decide +kernel
theorem dX12_init_366 : decode cX12_init 366 = .ok (.lastore, 1) := by decide +kernel
theorem dX12_init_367 : decode cX12_init 367 = .ok (.aload_n 0, 1) := by decide +kernel
theorem dX12_init_368 : decode cX12_init 368 = .ok (.getfield 34, 3) := by decide +kernel
theorem dX12_init_371 : decode cX12_init 371 = .ok (.iconst 5, 1) := by decide +kernel
theorem dX12_init_372 : decode cX12_init 372 = .ok (.bipush 97, 2) := by decide +kernel
theorem dX12_init_374 : decode cX12_init 374 = .ok (.bipush 112, 2) := by decide +kernel
theorem dX12_init_376 : decode cX12_init 376 = .ok (.bipush 97, 2) := by decide +kernel
theorem dX12_init_378 : decode cX12_init 378 = .ok (.bipush 114, 2) := by decide +kernel
theorem dX12_init_380 : decode cX12_init 380 = .ok (.bipush 116, 2) := by decide +kernel
theorem dX12_init_382 : decode cX12_init 382 = .ok (.iconst 0, 1) := by decide +kernel
theorem dX12_init_383 : decode cX12_init 383 = .ok (.iconst 0, 1) := by decide +kernel
theorem dX12_init_384 : decode cX12_init 384 = .ok (.invokestatic 114, 3) := by decide +kernel
theorem dX12_init_387 : decode cX12_init 387 = .ok (.lastore, 1) := by decide +kernel
theorem dX12_init_388 : decode cX12_init 388 = .ok (.aload_n 0, 1) := by decide +kernel
theorem dX12_init_389 : decode cX12_init 389 = .ok (.getfield 34, 3) := by decide +kernel
theorem dX12_init_392 : decode cX12_init 392 = .ok (.bipush 6, 2) := by decide +kernel
theorem dX12_init_394 : decode cX12_init 394 = .ok (.bipush 103, 2) := by decide +kernel
theorem dX12_init_396 : decode cX12_init 396 = .ok (.bipush 97, 2) := by decide +kernel
theorem dX12_init_398 : decode cX12_init 398 = .ok (.bipush 112, 2) := by decide +kernel
theorem dX12_init_400 : decode cX12_init 400 = .ok (.iconst 0, 1) := by decide +kernel
theorem dX12_init_401 : decode cX12_init 401 = .ok (.iconst 0, 1) := by decide +kernel
theorem dX12_init_402 : decode cX12_init 402 = .ok (.iconst 0, 1) := by decide +kernel
theorem dX12_init_403 : decode cX12_init 403 = .ok (.iconst 0, 1) := by decide +kernel
theorem dX12_init_404 : decode cX12_init 404 = .ok (.invokestatic 114, 3) := by decide +kernel
theorem dX12_init_407 : decode cX12_init 407 = .ok (.lastore, 1) := by decide +kernel
theorem dX12_init_408 : decode cX12_init 408 = .ok (.aload_n 0, 1) := by decide +kernel
theorem dX12_init_409 : decode cX12_init 409 = .ok (.getfield 34, 3) := by decide +kernel
theorem dX12_init_412 : decode cX12_init 412 = .ok (.bipush 7, 2) := by decide +kernel
theorem dX12_init_414 : decode cX12_init 414 = .ok (.bipush 110, 2) := by decide +kernel
theorem dX12_init_416 : decode cX12_init 416 = .ok (.bipush 111, 2) := by decide +kernel
theorem dX12_init_418 : decode cX12_init 418 = .ok (.bipush 110, 2) := by decide +kernel
theorem dX12_init_420 : decode cX12_init 420 = .ok (.bipush 101, 2) := by decide +kernel
theorem dX12_init_422 : decode cX12_init 422 = .ok (.iconst 0, 1) := by decide +kernel
theorem dX12_init_423 : decode cX12_init 423 = .ok (.iconst 0, 1) := by decide +kernel
theorem dX12_init_424 : decode cX12_init 424 = .ok (.iconst 0, 1) := by decide +kernel
theorem dX12_init_425 : decode cX12_init 425 = .ok (.invokestatic 114, 3) := by decide +kernel
theorem dX12_init_428 : decode cX12_init 428 = .ok (.lastore, 1) := by decide +kernel
theorem dX12_init_429 : decode cX12_init 429 = .ok (.aload_n 0, 1) := by decide +kernel
theorem dX12_init_430 : decode cX12_init 430 = .ok (.getfield 34, 3) := by decide +kernel
theorem dX12_init_433 : decode cX12_init 433 = .ok (.bipush 8, 2) := by decide +kernel
theorem dX12_init_435 : decode cX12_init 435 = .ok (.bipush 109, 2) := by decide +kernel
theorem dX12_init_437 : decode cX12_init 437 = .ok (.bipush 101, 2) := by decide +kernel
theorem dX12_init_439 : decode cX12_init 439 = .ok (.bipush 97, 2) := by decide +kernel
theorem dX12_init_441 : decode cX12_init 441 = .ok (.bipush 110, 2) := by decide +kernel
theorem dX12_init_443 : decode cX12_init 443 = .ok (.iconst 0, 1) := by decide +kernel
theorem dX12_init_444 : decode cX12_init 444 = .ok (.iconst 0, 1) := by decide +kernel
theorem dX12_init_445 : decode cX12_init 445 = .ok (.iconst 0, 1) := by decide +kernel
theorem dX12_init_446 : decode cX12_init 446 = .ok (.invokestatic 114, 3) := by decide +kernel
theorem dX12_init_449 : decode cX12_init 449 = .ok (.lastore, 1) := by decide +kernel
theorem dX12_init_450 : decode cX12_init 450 = .ok (.aload_n 0, 1) := by decide +kernel
theorem dX12_init_451 : decode cX12_init 451 = .ok (.getfield 34, 3) := by decide +kernel
theorem dX12_init_454 : decode cX12_init 454 = .ok (.bipush 9, 2) := by decide +kernel
theorem dX12_init_456 : decode cX12_init 456 = .ok (.bipush 102, 2) := by decide +kernel
theorem dX12_init_458 : decode cX12_init 458 = .ok (.bipush 105, 2) := by decide +kernel
theorem dX12_init_460 : decode cX12_init 460 = .ok (.bipush 114, 2) := by decide +kernel
theorem dX12_init_462 : decode cX12_init 462 = .ok (.bipush 115, 2) := by decide +kernel
theorem dX12_init_464 : decode cX12_init 464 = .ok (.bipush 116, 2) := by decide +kernel
theorem dX12_init_466 : decode cX12_init 466 = .ok (.iconst 0, 1) := by decide +kernel
theorem dX12_init_467 : decode cX12_init 467 = .ok (.iconst 0, 1) := by decide +kernel
theorem dX12_init_468 : decode cX12_init 468 = .ok (.invokestatic 114, 3) := by decide +kernel
theorem dX12_init_471 : decode cX12_init 471 = .ok (.lastore, 1) := by decide +kernel
theorem dX12_init_472 : decode cX12_init 472 = .ok (.aload_n 0, 1) := by decide +kernel
theorem dX12_init_473 : decode cX12_init 473 = .ok (.getfield 34, 3) := by decide +kernel
theorem dX12_init_476 : decode cX12_init 476 = .ok (.bipush 10, 2) := by decide +kernel
theorem dX12_init_478 : decode cX12_init 478 = .ok (.bipush 114, 2) := by decide +kernel
theorem dX12_init_480 : decode cX12_init 480 = .ok (.bipush 97, 2) := by decide +kernel
theorem dX12_init_482 : decode cX12_init 482 = .ok (.bipush 110, 2) := by decide +kernel
theorem dX12_init_484 : decode cX12_init 484 = .ok (.bipush 103, 2) := by decide +kernel
theorem dX12_init_486 : decode cX12_init 486 = .ok (.bipush 101, 2) := by decide +kernel
theorem dX12_init_488 : decode cX12_init 488 = .ok (.iconst 0, 1) := by decide +kernel
theorem dX12_init_489 : decode cX12_init 489 = .ok (.iconst 0, 1) := by decide +kernel
theorem dX12_init_490 : decode cX12_init 490 = .ok (.invokestatic 114, 3) := by decide +kernel
theorem dX12_init_493 : decode cX12_init 493 = .ok (.lastore, 1) := by decide +kernel
theorem dX12_init_494 : decode cX12_init 494 = .ok (.aload_n 0, 1) := by decide +kernel
theorem dX12_init_495 : decode cX12_init 495 = .ok (.getfield 34, 3) := by decide +kernel
theorem dX12_init_498 : decode cX12_init 498 = .ok (.bipush 11, 2) := by decide +kernel
theorem dX12_init_500 : decode cX12_init 500 = .ok (.bipush 112, 2) := by decide +kernel
theorem dX12_init_502 : decode cX12_init 502 = .ok (.bipush 108, 2) := by decide +kernel
theorem dX12_init_504 : decode cX12_init 504 = .ok (.bipush 97, 2) := by decide +kernel
theorem dX12_init_506 : decode cX12_init 506 = .ok (.bipush 105, 2) := by decide +kernel
theorem dX12_init_508 : decode cX12_init 508 = .ok (.bipush 110, 2) := by decide +kernel
theorem dX12_init_510 : decode cX12_init 510 = .ok (.iconst 0, 1) := by decide +kernel
theorem dX12_init_511 : decode cX12_init 511 = .ok (.iconst 0, 1) := by decide +kernel
theorem dX12_init_512 : decode cX12_init 512 = .ok (.invokestatic 114, 3) := by decide +kernel
theorem dX12_init_515 : decode cX12_init 515 = .ok (.lastore, 1) := by decide +kernel
theorem dX12_init_516 : decode cX12_init 516 = .ok (.aload_n 0, 1) := by decide +kernel
theorem dX12_init_517 : decode cX12_init 517 = .ok (.getfield 34, 3) := by decide +kernel
theorem dX12_init_520 : decode cX12_init 520 = .ok (.bipush 12, 2) := by decide +kernel
theorem dX12_init_522 : decode cX12_init 522 = .ok (.bipush 115, 2) := by decide +kernel
theorem dX12_init_524 : decode cX12_init 524 = .ok (.bipush 113, 2) := by decide +kernel
theorem dX12_init_526 : decode cX12_init 526 = .ok (.bipush 117, 2) := by decide +kernel
theorem dX12_init_528 : decode cX12_init 528 = .ok (.bipush 97, 2) := by decide +kernel
theorem dX12_init_530 : decode cX12_init 530 = .ok (.bipush 114, 2) := by decide +kernel
theorem dX12_init_532 : decode cX12_init 532 = .ok (.bipush 101, 2) := by decide +kernel
theorem dX12_init_534 : decode cX12_init 534 = .ok (.iconst 0, 1) := by decide +kernel
theorem dX12_init_535 : decode cX12_init 535 = .ok (.invokestatic 114, 3) := by decide +kernel
theorem dX12_init_538 : decode cX12_init 538 = .ok (.lastore, 1) := by decide +kernel
theorem dX12_init_539 : decode cX12_init 539 = .ok (.aload_n 0, 1) := by decide +kernel
theorem dX12_init_540 : decode cX12_init 540 = .ok (.invokevirtual 118, 3) := by decide +kernel
theorem dX12_init_543 : decode cX12_init 543 = .ok (.aload_n 0, 1) := by decide +kernel
theorem dX12_init_544 : decode cX12_init 544 = .ok (.invokevirtual 121, 3) := by decide +kernel
theorem dX12_init_547 : decode cX12_init 547 = .ok (.return_, 1) := by decide +kernel
set_option maxRecDepth 20000 in
theorem ggX12_feed_X12_lays : GoodIn wsX12_feed wsX12_lays := goodIn_r _ [6, 7, 1, 8, 9, 10, 11, 12, 13, 14, 15, 16, 17, 18, 19, 20, 21, 22, 23, 24, 25, 26, 27, 28, 29, 30, 31, 32, 33, 34, 35, 36, 37, 38, 39, 40, 41, 42, 43, 44, 45, 46, 47, 48, 49, 50, 51, 52, 53, 54, 55, 56, 57, 58, 59, 60, 61, 62] (by decide +kernel) (by decide +kernel)
set_option maxRecDepth 20000 in
theorem gX12_feed_X12_lays : GoodIn wsX12_feed (wsV RX12 127 RX12 yX12_lays wsX12_lays) := goodIn_app (goodIn_of _ (by decide +kernel)) ggX12_feed_X12_lays
theorem dX12_feed_0 : decode cX12_feed 0 = .ok (.aload_n 0, 1) := by decide +kernel
theorem dX12_feed_1 : decode cX12_feed 1 = .ok (.getfield 124, 3) := by decide +kernel
theorem dX12_feed_4 : decode cX12_feed 4 = .ok (.bipush 20, 2) := by decide +kernel
theorem dX12_feed_6 : decode cX12_feed 6 = .ok (.iadd, 1) := by decide +kernel
theorem dX12_feed_7 : decode cX12_feed 7 = .ok (.sipush 2000, 3) := by decide +kernel
theorem dX12_feed_10 : decode cX12_feed 10 = .ok (.if_icmp .le 5, 3) := by decide +kernel
theorem dX12_feed_13 : decode cX12_feed 13 = .ok (.iconst (-1), 1) := by decide +kernel
theorem dX12_feed_14 : decode cX12_feed 14 = .ok (.ireturn, 1) := by decide +kernel
theorem dX12_feed_15 : decode cX12_feed 15 = .ok (.aload_n 0, 1) := by decide +kernel
theorem dX12_feed_16 : decode cX12_feed 16 = .ok (.iload_n 1, 1) := by decide +kernel
theorem dX12_feed_17 : decode cX12_feed 17 = .ok (.invokevirtual 127, 3) := by decide +kernel
theorem dX12_feed_20 : decode cX12_feed 20 = .ok (.aload_n 0, 1) := by decide +kernel
theorem dX12_feed_21 : decode cX12_feed 21 = .ok (.iload_n 2, 1) := by decide +kernel
theorem dX12_feed_22 : decode cX12_feed 22 = .ok (.invokevirtual 127, 3) := by decide +kernel
theorem dX12_feed_25 : decode cX12_feed 25 = .ok (.aload_n 0, 1) := by decide +kernel
theorem dX12_feed_26 : decode cX12_feed 26 = .ok (.iload_n 3, 1) := by decide +kernel
theorem dX12_feed_27 : decode cX12_feed 27 = .ok (.invokevirtual 127, 3) := by decide +kernel
theorem dX12_feed_30 : decode cX12_feed 30 = .ok (.aload_n 0, 1) := by decide +kernel
theorem dX12_feed_31 : decode cX12_feed 31 = .ok (.iload 4, 2) := by decide +kernel
theorem dX12_feed_33 : decode cX12_feed 33 = .ok (.invokevirtual 127, 3) := by decide +kernel
theorem dX12_feed_36 : decode cX12_feed 36 = .ok (.aload_n 0, 1) := by decide +kernel
theorem dX12_feed_37 : decode cX12_feed 37 = .ok (.iload 5, 2) := by decide +kernel
theorem dX12_feed_39 : decode cX12_feed 39 = .ok (.invokevirtual 127, 3) := by decide +kernel
theorem dX12_feed_42 : decode cX12_feed 42 = .ok (.aload_n 0, 1) := by decide +kernel
theorem dX12_feed_43 : decode cX12_feed 43 = .ok (.getfield 124, 3) := by decide +kernel
theorem dX12_feed_46 : decode cX12_feed 46 = .ok (.ireturn, 1) := by decide +kernel
theorem dX12_lays_0 : decode cX12_lays 0 = .ok (.bipush 24, 2) := by decide +kernel
theorem dX12_lays_2 : decode cX12_lays 2 = .ok (.istore_n 2, 1) := by decide +kernel
theorem dX12_lays_3 : decode cX12_lays 3 = .ok (.iload_n 2, 1) := by decide +kernel
theorem dX12_lays_4 : decode cX12_lays 4 = .ok (.ifCond .lt 32, 3) := by decide +kernel
theorem dX12_lays_7 : decode cX12_lays 7 = .ok (.aload_n 0, 1) := by decide +kernel
theorem dX12_lays_8 : decode cX12_lays 8 = .ok (.getfield 13, 3) := by decide +kernel
theorem dX12_lays_11 : decode cX12_lays 11 = .ok (.aload_n 0, 1) := by decide +kernel
theorem dX12_lays_12 : decode cX12_lays 12 = .ok (.getfield 124, 3) := by decide +kernel
theorem dX12_lays_15 : decode cX12_lays 15 = .ok (.iload_n 1, 1) := by decide +kernel
theorem dX12_lays_16 : decode cX12_lays 16 = .ok (.iload_n 2, 1) := by decide +kernel
theorem dX12_lays_17 : decode cX12_lays 17 = .ok (.ishr, 1) := by decide +kernel
theorem dX12_lays_18 : decode cX12_lays 18 = .ok (.i2b, 1) := by decide +kernel
theorem dX12_lays_19 : decode cX12_lays 19 = .ok (.bastore, 1) := by decide +kernel
theorem dX12_lays_20 : decode cX12_lays 20 = .ok (.aload_n 0, 1) := by decide +kernel
theorem dX12_lays_21 : decode cX12_lays 21 = .ok (.dup, 1) := by decide +kernel
theorem dX12_lays_22 : decode cX12_lays 22 = .ok (.getfield 124, 3) := by decide +kernel
theorem dX12_lays_25 : decode cX12_lays 25 = .ok (.iconst 1, 1) := by decide +kernel
theorem dX12_lays_26 : decode cX12_lays 26 = .ok (.iadd, 1) := by decide +kernel
theorem dX12_lays_27 : decode cX12_lays 27 = .ok (.putfield 124, 3) := by decide +kernel
theorem dX12_lays_30 : decode cX12_lays 30 = .ok (.iinc 2 (-8), 3) := by decide +kernel
theorem dX12_lays_33 : decode cX12_lays 33 = .ok (.goto (-30), 3) := by decide +kernel
theorem dX12_lays_36 : decode cX12_lays 36 = .ok (.return_, 1) := by decide +kernel
theorem dX12_back_0 : decode cX12_back 0 = .ok (.iload_n 1, 1) := by decide +kernel
theorem dX12_back_1 : decode cX12_back 1 = .ok (.ifCond .lt 11, 3) := by decide +kernel
theorem dX12_back_4 : decode cX12_back 4 = .ok (.iload_n 1, 1) := by decide +kernel
theorem dX12_back_5 : decode cX12_back 5 = .ok (.aload_n 0, 1) := by decide +kernel
theorem dX12_back_6 : decode cX12_back 6 = .ok (.getfield 124, 3) := by decide +kernel
theorem dX12_back_9 : decode cX12_back 9 = .ok (.if_icmp .le 5, 3) := by decide +kernel
theorem dX12_back_12 : decode cX12_back 12 = .ok (.iconst (-1), 1) := by decide +kernel
theorem dX12_back_13 : decode cX12_back 13 = .ok (.ireturn, 1) := by decide +kernel
theorem dX12_back_14 : decode cX12_back 14 = .ok (.aload_n 0, 1) := by decide +kernel
theorem dX12_back_15 : decode cX12_back 15 = .ok (.dup, 1) := by decide +kernel
theorem dX12_back_16 : decode cX12_back 16 = .ok (.getfield 124, 3) := by decide +kernel
theorem dX12_back_19 : decode cX12_back 19 = .ok (.iload_n 1, 1) := by decide +kernel
theorem dX12_back_20 : decode cX12_back 20 = .ok (.isub, 1) := by decide +kernel
theorem dX12_back_21 : decode cX12_back 21 = .ok (.putfield 124, 3) := by decide +kernel
theorem dX12_back_24 : decode cX12_back 24 = .ok (.aload_n 0, 1) := by decide +kernel
theorem dX12_back_25 : decode cX12_back 25 = .ok (.getfield 124, 3) := by decide +kernel
theorem dX12_back_28 : decode cX12_back 28 = .ok (.ireturn, 1) := by decide +kernel
theorem dX12_byteAt_0 : decode cX12_byteAt 0 = .ok (.iload_n 1, 1) := by decide +kernel
theorem dX12_byteAt_1 : decode cX12_byteAt 1 = .ok (.aload_n 0, 1) := by decide +kernel
theorem dX12_byteAt_2 : decode cX12_byteAt 2 = .ok (.getfield 130, 3) := by decide +kernel
theorem dX12_byteAt_5 : decode cX12_byteAt 5 = .ok (.if_icmp .ge 16, 3) := by decide +kernel
theorem dX12_byteAt_8 : decode cX12_byteAt 8 = .ok (.aload_n 0, 1) := by decide +kernel
theorem dX12_byteAt_9 : decode cX12_byteAt 9 = .ok (.getfield 17, 3) := by decide +kernel
theorem dX12_byteAt_12 : decode cX12_byteAt 12 = .ok (.iload_n 1, 1) := by decide +kernel
theorem dX12_byteAt_13 : decode cX12_byteAt 13 = .ok (.baload, 1) := by decide +kernel
theorem dX12_byteAt_14 : decode cX12_byteAt 14 = .ok (.sipush 255, 3) := by decide +kernel
theorem dX12_byteAt_17 : decode cX12_byteAt 17 = .ok (.iand, 1) := by decide +kernel
theorem dX12_byteAt_18 : decode cX12_byteAt 18 = .ok (.goto 4, 3) := by decide +kernel
theorem dX12_byteAt_21 : decode cX12_byteAt 21 = .ok (.iconst 0, 1) := by decide +kernel
theorem dX12_byteAt_22 : decode cX12_byteAt 22 = .ok (.ireturn, 1) := by decide +kernel
theorem dX12_isDigit_0 : decode cX12_isDigit 0 = .ok (.iload_n 0, 1) := by decide +kernel
theorem dX12_isDigit_1 : decode cX12_isDigit 1 = .ok (.bipush 48, 2) := by decide +kernel
theorem dX12_isDigit_3 : decode cX12_isDigit 3 = .ok (.if_icmp .lt 13, 3) := by decide +kernel
theorem dX12_isDigit_6 : decode cX12_isDigit 6 = .ok (.iload_n 0, 1) := by decide +kernel
theorem dX12_isDigit_7 : decode cX12_isDigit 7 = .ok (.bipush 57, 2) := by decide +kernel
theorem dX12_isDigit_9 : decode cX12_isDigit 9 = .ok (.if_icmp .gt 7, 3) := by decide +kernel
theorem dX12_isDigit_12 : decode cX12_isDigit 12 = .ok (.iconst 1, 1) := by decide +kernel
theorem dX12_isDigit_13 : decode cX12_isDigit 13 = .ok (.goto 4, 3) := by decide +kernel
theorem dX12_isDigit_16 : decode cX12_isDigit 16 = .ok (.iconst 0, 1) := by decide +kernel
theorem dX12_isDigit_17 : decode cX12_isDigit 17 = .ok (.ireturn, 1) := by decide +kernel
theorem dX12_isLetter_0 : decode cX12_isLetter 0 = .ok (.iload_n 0, 1) := by decide +kernel
theorem dX12_isLetter_1 : decode cX12_isLetter 1 = .ok (.bipush 97, 2) := by decide +kernel
theorem dX12_isLetter_3 : decode cX12_isLetter 3 = .ok (.if_icmp .lt 13, 3) := by decide +kernel
theorem dX12_isLetter_6 : decode cX12_isLetter 6 = .ok (.iload_n 0, 1) := by decide +kernel
theorem dX12_isLetter_7 : decode cX12_isLetter 7 = .ok (.bipush 122, 2) := by decide +kernel
theorem dX12_isLetter_9 : decode cX12_isLetter 9 = .ok (.if_icmp .gt 7, 3) := by decide +kernel
theorem dX12_isLetter_12 : decode cX12_isLetter 12 = .ok (.iconst 1, 1) := by decide +kernel
theorem dX12_isLetter_13 : decode cX12_isLetter 13 = .ok (.goto 4, 3) := by decide +kernel
theorem dX12_isLetter_16 : decode cX12_isLetter 16 = .ok (.iconst 0, 1) := by decide +kernel
theorem dX12_isLetter_17 : decode cX12_isLetter 17 = .ok (.ireturn, 1) := by decide +kernel
theorem dX12_appends_0 : decode cX12_appends 0 = .ok (.iload_n 2, 1) := by decide +kernel
theorem dX12_appends_1 : decode cX12_appends 1 = .ok (.ifCond .ne 7, 3) := by decide +kernel
theorem dX12_appends_4 : decode cX12_appends 4 = .ok (.lload_n 0, 1) := by decide +kernel
theorem dX12_appends_5 : decode cX12_appends 5 = .ok (.goto 16, 3) := by decide +kernel
theorem dX12_appends_8 : decode cX12_appends 8 = .ok (.ldc2_w 133, 3) := by decide +kernel
theorem dX12_appends_11 : decode cX12_appends 11 = .ok (.lload_n 0, 1) := by decide +kernel
theorem dX12_appends_12 : decode cX12_appends 12 = .ok (.lmul, 1) := by decide +kernel
theorem dX12_appends_13 : decode cX12_appends 13 = .ok (.iload_n 2, 1) := by decide +kernel
theorem dX12_appends_14 : decode cX12_appends 14 = .ok (.bipush 97, 2) := by decide +kernel
theorem dX12_appends_16 : decode cX12_appends 16 = .ok (.isub, 1) := by decide +kernel
theorem dX12_appends_17 : decode cX12_appends 17 = .ok (.iconst 1, 1) := by decide +kernel
theorem dX12_appends_18 : decode cX12_appends 18 = .ok (.iadd, 1) := by decide +kernel
theorem dX12_appends_19 : decode cX12_appends 19 = .ok (.i2l, 1) := by decide +kernel
theorem dX12_appends_20 : decode cX12_appends 20 = .ok (.ladd, 1) := by decide +kernel
theorem dX12_appends_21 : decode cX12_appends 21 = .ok (.lreturn, 1) := by decide +kernel
set_option maxRecDepth 20000 in
theorem ggX12_letters_X12_appends : GoodIn wsX12_letters wsX12_appends := goodIn_r _ [4, 5] (by decide +kernel) (by decide +kernel)
set_option maxRecDepth 20000 in
theorem gX12_letters_X12_appends : GoodIn wsX12_letters (va_wsS RX12 135 yX12_appends wsX12_appends) := goodIn_app (goodIn_of _ (by decide +kernel)) ggX12_letters_X12_appends
theorem dX12_letters_0 : decode cX12_letters 0 = .ok (.lconst 0, 1) := by decide +kernel
theorem dX12_letters_1 : decode cX12_letters 1 = .ok (.iload_n 0, 1) := by decide +kernel
theorem dX12_letters_2 : decode cX12_letters 2 = .ok (.invokestatic 135, 3) := by decide +kernel
theorem dX12_letters_5 : decode cX12_letters 5 = .ok (.iload_n 1, 1) := by decide +kernel
theorem dX12_letters_6 : decode cX12_letters 6 = .ok (.invokestatic 135, 3) := by decide +kernel
theorem dX12_letters_9 : decode cX12_letters 9 = .ok (.iload_n 2, 1) := by decide +kernel
theorem dX12_letters_10 : decode cX12_letters 10 = .ok (.invokestatic 135, 3) := by decide +kernel
theorem dX12_letters_13 : decode cX12_letters 13 = .ok (.iload_n 3, 1) := by decide +kernel
theorem dX12_letters_14 : decode cX12_letters 14 = .ok (.invokestatic 135, 3) := by decide +kernel
theorem dX12_letters_17 : decode cX12_letters 17 = .ok (.iload 4, 2) := by decide +kernel
theorem dX12_letters_19 : decode cX12_letters 19 = .ok (.invokestatic 135, 3) := by decide +kernel
theorem dX12_letters_22 : decode cX12_letters 22 = .ok (.iload 5, 2) := by decide +kernel
theorem dX12_letters_24 : decode cX12_letters 24 = .ok (.invokestatic 135, 3) := by decide +kernel
theorem dX12_letters_27 : decode cX12_letters 27 = .ok (.iload 6, 2) := by decide +kernel
theorem dX12_letters_29 : decode cX12_letters 29 = .ok (.invokestatic 135, 3) := by decide +kernel
theorem dX12_letters_32 : decode cX12_letters 32 = .ok (.lreturn, 1) := by decide +kernel
theorem dX12_token_0 : decode cX12_token 0 = .ok (.aload_n 0, 1) := by decide +kernel
theorem dX12_token_1 : decode cX12_token 1 = .ok (.getfield 20, 3) := by decide +kernel
theorem dX12_token_4 : decode cX12_token 4 = .ok (.aload_n 0, 1) := by decide +kernel
theorem dX12_token_5 : decode cX12_token 5 = .ok (.getfield 139, 3) := by decide +kernel
theorem dX12_token_8 : decode cX12_token 8 = .ok (.iload_n 1, 1) := by decide +kernel
theorem dX12_token_9 : decode cX12_token 9 = .ok (.iastore, 1) := by decide +kernel
theorem dX12_token_10 : decode cX12_token 10 = .ok (.aload_n 0, 1) := by decide +kernel
theorem dX12_token_11 : decode cX12_token 11 = .ok (.getfield 24, 3) := by decide +kernel
theorem dX12_token_14 : decode cX12_token 14 = .ok (.aload_n 0, 1) := by decide +kernel
theorem dX12_token_15 : decode cX12_token 15 = .ok (.getfield 139, 3) := by decide +kernel
theorem dX12_token_18 : decode cX12_token 18 = .ok (.iload_n 2, 1) := by decide +kernel
theorem dX12_token_19 : decode cX12_token 19 = .ok (.iastore, 1) := by decide +kernel
theorem dX12_token_20 : decode cX12_token 20 = .ok (.aload_n 0, 1) := by decide +kernel
theorem dX12_token_21 : decode cX12_token 21 = .ok (.getfield 27, 3) := by decide +kernel
theorem dX12_token_24 : decode cX12_token 24 = .ok (.aload_n 0, 1) := by decide +kernel
theorem dX12_token_25 : decode cX12_token 25 = .ok (.getfield 139, 3) := by decide +kernel
theorem dX12_token_28 : decode cX12_token 28 = .ok (.iload_n 3, 1) := by decide +kernel
theorem dX12_token_29 : decode cX12_token 29 = .ok (.iastore, 1) := by decide +kernel
theorem dX12_token_30 : decode cX12_token 30 = .ok (.aload_n 0, 1) := by decide +kernel
theorem dX12_token_31 : decode cX12_token 31 = .ok (.getfield 30, 3) := by decide +kernel
theorem dX12_token_34 : decode cX12_token 34 = .ok (.aload_n 0, 1) := by decide +kernel
theorem dX12_token_35 : decode cX12_token 35 = .ok (.getfield 139, 3) := by decide +kernel
theorem dX12_token_38 : decode cX12_token 38 = .ok (.lload 4, 2) := by decide +kernel
theorem dX12_token_40 : decode cX12_token 40 = .ok (.lastore, 1) := by decide +kernel
theorem dX12_token_41 : decode cX12_token 41 = .ok (.aload_n 0, 1) := by decide +kernel
theorem dX12_token_42 : decode cX12_token 42 = .ok (.dup, 1) := by decide +kernel
theorem dX12_token_43 : decode cX12_token 43 = .ok (.getfield 139, 3) := by decide +kernel
theorem dX12_token_46 : decode cX12_token 46 = .ok (.iconst 1, 1) := by decide +kernel
theorem dX12_token_47 : decode cX12_token 47 = .ok (.iadd, 1) := by decide +kernel
theorem dX12_token_48 : decode cX12_token 48 = .ok (.putfield 139, 3) := by decide +kernel
theorem dX12_token_51 : decode cX12_token 51 = .ok (.return_, 1) := by decide +kernel
set_option maxRecDepth 20000 in
theorem ggX12_cut_X12_byteAt : GoodIn wsX12_cut wsX12_byteAt := goodIn_r _ [8, 2, 9, 32, 33, 34, 35, 36, 37, 38, 39, 40, 41, 42, 43, 44, 45, 46, 47, 48, 49, 50, 51, 52, 53, 54, 55, 56, 57, 58, 59, 60, 61, 62, 63, 64, 65, 66, 67, 68, 69, 70, 71, 72, 73, 74, 75, 76, 77, 78, 79, 80, 81, 82, 83, 84, 85, 86] (by decide +kernel) (by decide +kernel)
set_option maxRecDepth 20000 in
theorem gX12_cut_X12_byteAt : GoodIn wsX12_cut (wsV RX12 142 RX12 yX12_byteAt wsX12_byteAt) := goodIn_app (goodIn_of _ (by decide +kernel)) ggX12_cut_X12_byteAt
set_option maxRecDepth 20000 in
theorem ggX12_cut_X12_token : GoodIn wsX12_cut wsX12_token := goodIn_r _ [13, 14, 1, 15, 16, 17, 32, 33, 34, 35, 36, 37, 38, 39, 40, 41, 42, 43, 44, 45, 46, 47, 48, 49, 50, 51, 52, 53, 54, 55, 56, 57, 58, 59, 60, 61, 62, 63, 64, 65, 66, 67, 68, 69, 70, 71, 72, 73, 74, 75, 76, 77, 78, 79, 80, 81, 82, 83, 84, 85, 86] (by decide +kernel) (by decide +kernel)
set_option maxRecDepth 20000 in
theorem gX12_cut_X12_token : GoodIn wsX12_cut (wsV RX12 146 RX12 yX12_token wsX12_token) := goodIn_app (goodIn_of _ (by decide +kernel)) ggX12_cut_X12_token
set_option maxRecDepth 20000 in
theorem ggX12_cut_X12_isLetter : GoodIn wsX12_cut wsX12_isLetter := goodIn_r _ [20] (by decide +kernel) (by decide +kernel)
set_option maxRecDepth 20000 in
theorem gX12_cut_X12_isLetter : GoodIn wsX12_cut (va_wsS RX12 150 yX12_isLetter wsX12_isLetter) := goodIn_app (goodIn_of _ (by decide +kernel)) ggX12_cut_X12_isLetter
set_option maxRecDepth 20000 in
theorem ggX12_cut_X12_appends : GoodIn wsX12_cut wsX12_appends := goodIn_r _ [23, 24] (by decide +kernel) (by decide +kernel)
set_option maxRecDepth 20000 in
theorem gX12_cut_X12_appends : GoodIn wsX12_cut (va_wsS RX12 135 yX12_appends wsX12_appends) := goodIn_app (goodIn_of _ (by decide +kernel)) ggX12_cut_X12_appends
set_option maxRecDepth 20000 in
theorem ggX12_cut_X12_isDigit : GoodIn wsX12_cut wsX12_isDigit := goodIn_r _ [27] (by decide +kernel) (by decide +kernel)
set_option maxRecDepth 20000 in
theorem gX12_cut_X12_isDigit : GoodIn wsX12_cut (va_wsS RX12 154 yX12_isDigit wsX12_isDigit) := goodIn_app (goodIn_of _ (by decide +kernel)) ggX12_cut_X12_isDigit
set_option maxRecDepth 20000 in
theorem ggX12_cut_X12_sign : GoodIn wsX12_cut wsX12_sign := goodIn_r _ [31, 10, 11, 12, 7, 13, 14, 1, 15, 16, 17, 32, 33, 34, 35, 36, 37, 38, 39, 40, 41, 42, 43, 44, 45, 46, 47, 48, 49, 50, 51, 52, 53, 54, 55, 56, 57, 58, 59, 60, 61, 62, 63, 64, 65, 66, 67, 68, 69, 70, 71, 72, 73, 74, 75, 76, 77, 78, 79, 80, 81, 82, 83, 84, 85, 86] (by decide +kernel) (by decide +kernel)
set_option maxRecDepth 20000 in
theorem gX12_cut_X12_sign : GoodIn wsX12_cut (wsV RX12 157 RX12 yX12_sign wsX12_sign) := goodIn_app (goodIn_of _ (by decide +kernel)) ggX12_cut_X12_sign
theorem dX12_cut_0 : decode cX12_cut 0 = .ok (.aload_n 0, 1) := by decide +kernel
theorem dX12_cut_1 : decode cX12_cut 1 = .ok (.iconst 0, 1) := by decide +kernel
theorem dX12_cut_2 : decode cX12_cut 2 = .ok (.putfield 139, 3) := by decide +kernel
theorem dX12_cut_5 : decode cX12_cut 5 = .ok (.iconst 0, 1) := by decide +kernel
theorem dX12_cut_6 : decode cX12_cut 6 = .ok (.istore_n 1, 1) := by decide +kernel
theorem dX12_cut_7 : decode cX12_cut 7 = .ok (.aload_n 0, 1) := by decide +kernel
theorem dX12_cut_8 : decode cX12_cut 8 = .ok (.getfield 139, 3) := by decide +kernel
theorem dX12_cut_11 : decode cX12_cut 11 = .ok (.sipush 400, 3) := by decide +kernel
theorem dX12_cut_14 : decode cX12_cut 14 = .ok (.if_icmp .gt 280, 3) := by decide +kernel
theorem dX12_cut_17 : decode cX12_cut 17 = .ok (.aload_n 0, 1) := by decide +kernel
theorem dX12_cut_18 : decode cX12_cut 18 = .ok (.iload_n 1, 1) := by decide +kernel
theorem dX12_cut_19 : decode cX12_cut 19 = .ok (.invokevirtual 142, 3) := by decide +kernel
theorem dX12_cut_22 : decode cX12_cut 22 = .ok (.istore_n 2, 1) := by decide +kernel
theorem dX12_cut_23 : decode cX12_cut 23 = .ok (.iload_n 1, 1) := by decide +kernel
theorem dX12_cut_24 : decode cX12_cut 24 = .ok (.aload_n 0, 1) := by decide +kernel
theorem dX12_cut_25 : decode cX12_cut 25 = .ok (.getfield 130, 3) := by decide +kernel
theorem dX12_cut_28 : decode cX12_cut 28 = .ok (.if_icmp .lt 15, 3) := by decide +kernel
theorem dX12_cut_31 : decode cX12_cut 31 = .ok (.aload_n 0, 1) := by decide +kernel
theorem dX12_cut_32 : decode cX12_cut 32 = .ok (.iconst 0, 1) := by decide +kernel
theorem dX12_cut_33 : decode cX12_cut 33 = .ok (.aload_n 0, 1) := by decide +kernel
theorem dX12_cut_34 : decode cX12_cut 34 = .ok (.getfield 130, 3) := by decide +kernel
theorem dX12_cut_37 : decode cX12_cut 37 = .ok (.iconst 0, 1) := by decide +kernel
theorem dX12_cut_38 : decode cX12_cut 38 = .ok (.lconst 0, 1) := by decide +kernel
theorem dX12_cut_39 : decode cX12_cut 39 = .ok (.invokevirtual 146, 3) := by decide +kernel
theorem dX12_cut_42 : decode cX12_cut 42 = .ok (.return_, 1) := by decide +kernel
theorem dX12_cut_43 : decode cX12_cut 43 = .ok (.iload_n 2, 1) := by decide +kernel
theorem dX12_cut_44 : decode cX12_cut 44 = .ok (.bipush 9, 2) := by decide +kernel
theorem dX12_cut_46 : decode cX12_cut 46 = .ok (.if_icmp .eq 21, 3) := by decide +kernel
theorem dX12_cut_49 : decode cX12_cut 49 = .ok (.iload_n 2, 1) := by decide +kernel
theorem dX12_cut_50 : decode cX12_cut 50 = .ok (.bipush 10, 2) := by decide +kernel
theorem dX12_cut_52 : decode cX12_cut 52 = .ok (.if_icmp .eq 15, 3) := by decide +kernel
theorem dX12_cut_55 : decode cX12_cut 55 = .ok (.iload_n 2, 1) := by decide +kernel
theorem dX12_cut_56 : decode cX12_cut 56 = .ok (.bipush 13, 2) := by decide +kernel
theorem dX12_cut_58 : decode cX12_cut 58 = .ok (.if_icmp .eq 9, 3) := by decide +kernel
theorem dX12_cut_61 : decode cX12_cut 61 = .ok (.iload_n 2, 1) := by decide +kernel
theorem dX12_cut_62 : decode cX12_cut 62 = .ok (.bipush 32, 2) := by decide +kernel
theorem dX12_cut_64 : decode cX12_cut 64 = .ok (.if_icmp .ne 9, 3) := by decide +kernel
theorem dX12_cut_67 : decode cX12_cut 67 = .ok (.iinc 1 1, 3) := by decide +kernel
theorem dX12_cut_70 : decode cX12_cut 70 = .ok (.goto 221, 3) := by decide +kernel
theorem dX12_cut_73 : decode cX12_cut 73 = .ok (.iload_n 2, 1) := by decide +kernel
theorem dX12_cut_74 : decode cX12_cut 74 = .ok (.invokestatic 150, 3) := by decide +kernel
theorem dX12_cut_77 : decode cX12_cut 77 = .ok (.ifCond .eq 119, 3) := by decide +kernel
theorem dX12_cut_80 : decode cX12_cut 80 = .ok (.iconst 0, 1) := by decide +kernel
theorem dX12_cut_81 : decode cX12_cut 81 = .ok (.istore_n 3, 1) := by decide +kernel
theorem dX12_cut_82 : decode cX12_cut 82 = .ok (.lconst 0, 1) := by decide +kernel
theorem dX12_cut_83 : decode cX12_cut 83 = .ok (.lstore 4, 2) := by decide +kernel
theorem dX12_cut_85 : decode cX12_cut 85 = .ok (.aload_n 0, 1) := by decide +kernel
theorem dX12_cut_86 : decode cX12_cut 86 = .ok (.iload_n 1, 1) := by decide +kernel
theorem dX12_cut_87 : decode cX12_cut 87 = .ok (.iload_n 3, 1) := by decide +kernel
theorem dX12_cut_88 : decode cX12_cut 88 = .ok (.iadd, 1) := by decide +kernel
theorem dX12_cut_89 : decode cX12_cut 89 = .ok (.invokevirtual 142, 3) := by decide +kernel
theorem dX12_cut_92 : decode cX12_cut 92 = .ok (.invokestatic 150, 3) := by decide +kernel
theorem dX12_cut_95 : decode cX12_cut 95 = .ok (.ifCond .eq 29, 3) := by decide +kernel
theorem dX12_cut_98 : decode cX12_cut 98 = .ok (.iload_n 3, 1) := by decide +kernel
theorem dX12_cut_99 : decode cX12_cut 99 = .ok (.bipush 8, 2) := by decide +kernel
theorem dX12_cut_101 : decode cX12_cut 101 = .ok (.if_icmp .ge 17, 3) := by decide +kernel
theorem dX12_cut_104 : decode cX12_cut 104 = .ok (.lload 4, 2) := by decide +kernel
theorem dX12_cut_106 : decode cX12_cut 106 = .ok (.aload_n 0, 1) := by decide +kernel
theorem dX12_cut_107 : decode cX12_cut 107 = .ok (.iload_n 1, 1) := by decide +kernel
theorem dX12_cut_108 : decode cX12_cut 108 = .ok (.iload_n 3, 1) := by decide +kernel
theorem dX12_cut_109 : decode cX12_cut 109 = .ok (.iadd, 1) := by decide +kernel
theorem dX12_cut_110 : decode cX12_cut 110 = .ok (.invokevirtual 142, 3) := by decide +kernel
theorem dX12_cut_113 : decode cX12_cut 113 = .ok (.invokestatic 135, 3) := by decide +kernel
theorem dX12_cut_116 : decode cX12_cut 116 = .ok (.lstore 4, 2) := by decide +kernel
theorem dX12_cut_118 : decode cX12_cut 118 = .ok (.iinc 3 1, 3) := by decide +kernel
theorem dX12_cut_121 : decode cX12_cut 121 = .ok (.goto (-36), 3) := by decide +kernel
theorem dX12_cut_124 : decode cX12_cut 124 = .ok (.iload_n 3, 1) := by decide +kernel
theorem dX12_cut_125 : decode cX12_cut 125 = .ok (.bipush 8, 2) := by decide +kernel
theorem dX12_cut_127 : decode cX12_cut 127 = .ok (.if_icmp .le 7, 3) := by decide +kernel
theorem dX12_cut_130 : decode cX12_cut 130 = .ok (.iconst 3, 1) := by decide +kernel
theorem dX12_cut_131 : decode cX12_cut 131 = .ok (.goto 4, 3) := by decide +kernel
theorem dX12_cut_134 : decode cX12_cut 134 = .ok (.iconst 1, 1) := by decide +kernel
theorem dX12_cut_135 : decode cX12_cut 135 = .ok (.istore 6, 2) := by decide +kernel
theorem dX12_cut_137 : decode cX12_cut 137 = .ok (.iload_n 3, 1) := by decide +kernel
theorem dX12_cut_138 : decode cX12_cut 138 = .ok (.bipush 8, 2) := by decide +kernel
theorem dX12_cut_140 : decode cX12_cut 140 = .ok (.if_icmp .gt 39, 3) := by decide +kernel
theorem dX12_cut_143 : decode cX12_cut 143 = .ok (.iconst 0, 1) := by decide +kernel
theorem dX12_cut_144 : decode cX12_cut 144 = .ok (.istore 7, 2) := by decide +kernel
theorem dX12_cut_146 : decode cX12_cut 146 = .ok (.iload 7, 2) := by decide +kernel
theorem dX12_cut_148 : decode cX12_cut 148 = .ok (.bipush 13, 2) := by decide +kernel
theorem dX12_cut_150 : decode cX12_cut 150 = .ok (.if_icmp .ge 29, 3) := by decide +kernel
theorem dX12_cut_153 : decode cX12_cut 153 = .ok (.aload_n 0, 1) := by decide +kernel
theorem dX12_cut_154 : decode cX12_cut 154 = .ok (.getfield 34, 3) := by decide +kernel
theorem dX12_cut_157 : decode cX12_cut 157 = .ok (.iload 7, 2) := by decide +kernel
theorem dX12_cut_159 : decode cX12_cut 159 = .ok (.laload, 1) := by decide +kernel
theorem dX12_cut_160 : decode cX12_cut 160 = .ok (.lload 4, 2) := by decide +kernel
theorem dX12_cut_162 : decode cX12_cut 162 = .ok (.lcmp, 1) := by decide +kernel
theorem dX12_cut_163 : decode cX12_cut 163 = .ok (.ifCond .ne 10, 3) := by decide +kernel
theorem dX12_cut_166 : decode cX12_cut 166 = .ok (.bipush 20, 2) := by decide +kernel
theorem dX12_cut_168 : decode cX12_cut 168 = .ok (.iload 7, 2) := by decide +kernel
theorem dX12_cut_170 : decode cX12_cut 170 = .ok (.iadd, 1) := by decide +kernel
theorem dX12_cut_171 : decode cX12_cut 171 = .ok (.istore 6, 2) := by decide +kernel
theorem dX12_cut_173 : decode cX12_cut 173 = .ok (.iinc 7 1, 3) := by decide +kernel
theorem dX12_cut_176 : decode cX12_cut 176 = .ok (.goto (-30), 3) := by decide +kernel
theorem dX12_cut_179 : decode cX12_cut 179 = .ok (.aload_n 0, 1) := by decide +kernel
theorem dX12_cut_180 : decode cX12_cut 180 = .ok (.iload 6, 2) := by decide +kernel
theorem dX12_cut_182 : decode cX12_cut 182 = .ok (.iload_n 1, 1) := by decide +kernel
theorem dX12_cut_183 : decode cX12_cut 183 = .ok (.iconst 0, 1) := by decide +kernel
theorem dX12_cut_184 : decode cX12_cut 184 = .ok (.lload 4, 2) := by decide +kernel
theorem dX12_cut_186 : decode cX12_cut 186 = .ok (.invokevirtual 146, 3) := by decide +kernel
theorem dX12_cut_189 : decode cX12_cut 189 = .ok (.iload_n 1, 1) := by decide +kernel
theorem dX12_cut_190 : decode cX12_cut 190 = .ok (.iload_n 3, 1) := by decide +kernel
theorem dX12_cut_191 : decode cX12_cut 191 = .ok (.iadd, 1) := by decide +kernel
theorem dX12_cut_192 : decode cX12_cut 192 = .ok (.istore_n 1, 1) := by decide +kernel
theorem dX12_cut_193 : decode cX12_cut 193 = .ok (.goto 98, 3) := by decide +kernel
theorem dX12_cut_196 : decode cX12_cut 196 = .ok (.iload_n 2, 1) := by decide +kernel
theorem dX12_cut_197 : decode cX12_cut 197 = .ok (.invokestatic 154, 3) := by decide +kernel
theorem dX12_cut_200 : decode cX12_cut 200 = .ok (.ifCond .eq 75, 3) := by decide +kernel
theorem dX12_cut_203 : decode cX12_cut 203 = .ok (.iconst 0, 1) := by decide +kernel
theorem dX12_cut_204 : decode cX12_cut 204 = .ok (.istore_n 3, 1) := by decide +kernel
theorem dX12_cut_205 : decode cX12_cut 205 = .ok (.iconst 0, 1) := by decide +kernel
theorem dX12_cut_206 : decode cX12_cut 206 = .ok (.istore 4, 2) := by decide +kernel
theorem dX12_cut_208 : decode cX12_cut 208 = .ok (.aload_n 0, 1) := by decide +kernel
theorem dX12_cut_209 : decode cX12_cut 209 = .ok (.iload_n 1, 1) := by decide +kernel
theorem dX12_cut_210 : decode cX12_cut 210 = .ok (.iload_n 3, 1) := by decide +kernel
theorem dX12_cut_211 : decode cX12_cut 211 = .ok (.iadd, 1) := by decide +kernel
theorem dX12_cut_212 : decode cX12_cut 212 = .ok (.invokevirtual 142, 3) := by decide +kernel
theorem dX12_cut_215 : decode cX12_cut 215 = .ok (.invokestatic 154, 3) := by decide +kernel
theorem dX12_cut_218 : decode cX12_cut 218 = .ok (.ifCond .eq 32, 3) := by decide +kernel
theorem dX12_cut_221 : decode cX12_cut 221 = .ok (.iload_n 3, 1) := by decide +kernel
theorem dX12_cut_222 : decode cX12_cut 222 = .ok (.iconst 4, 1) := by decide +kernel
theorem dX12_cut_223 : decode cX12_cut 223 = .ok (.if_icmp .ge 21, 3) := by decide +kernel
theorem dX12_cut_226 : decode cX12_cut 226 = .ok (.bipush 10, 2) := by decide +kernel
theorem dX12_cut_228 : decode cX12_cut 228 = .ok (.iload 4, 2) := by decide +kernel
theorem dX12_cut_230 : decode cX12_cut 230 = .ok (.imul, 1) := by decide +kernel
theorem dX12_cut_231 : decode cX12_cut 231 = .ok (.aload_n 0, 1) := by decide +kernel
theorem dX12_cut_232 : decode cX12_cut 232 = .ok (.iload_n 1, 1) := by decide +kernel
theorem dX12_cut_233 : decode cX12_cut 233 = .ok (.iload_n 3, 1) := by decide +kernel
theorem dX12_cut_234 : decode cX12_cut 234 = .ok (.iadd, 1) := by decide +kernel
theorem dX12_cut_235 : decode cX12_cut 235 = .ok (.invokevirtual 142, 3) := by decide +kernel
theorem dX12_cut_238 : decode cX12_cut 238 = .ok (.iadd, 1) := by decide +kernel
theorem dX12_cut_239 : decode cX12_cut 239 = .ok (.bipush 48, 2) := by decide +kernel
theorem dX12_cut_241 : decode cX12_cut 241 = .ok (.isub, 1) := by decide +kernel
theorem dX12_cut_242 : decode cX12_cut 242 = .ok (.istore 4, 2) := by decide +kernel
theorem dX12_cut_244 : decode cX12_cut 244 = .ok (.iinc 3 1, 3) := by decide +kernel
theorem dX12_cut_247 : decode cX12_cut 247 = .ok (.goto (-39), 3) := by decide +kernel
theorem dX12_cut_250 : decode cX12_cut 250 = .ok (.aload_n 0, 1) := by decide +kernel
theorem dX12_cut_251 : decode cX12_cut 251 = .ok (.iload_n 3, 1) := by decide +kernel
theorem dX12_cut_252 : decode cX12_cut 252 = .ok (.iconst 4, 1) := by decide +kernel
theorem dX12_cut_253 : decode cX12_cut 253 = .ok (.if_icmp .le 7, 3) := by decide +kernel
theorem dX12_cut_256 : decode cX12_cut 256 = .ok (.iconst 3, 1) := by decide +kernel
theorem dX12_cut_257 : decode cX12_cut 257 = .ok (.goto 4, 3) := by decide +kernel
theorem dX12_cut_260 : decode cX12_cut 260 = .ok (.iconst 2, 1) := by decide +kernel
theorem dX12_cut_261 : decode cX12_cut 261 = .ok (.iload_n 1, 1) := by decide +kernel
theorem dX12_cut_262 : decode cX12_cut 262 = .ok (.iload 4, 2) := by decide +kernel
theorem dX12_cut_264 : decode cX12_cut 264 = .ok (.lconst 0, 1) := by decide +kernel
theorem dX12_cut_265 : decode cX12_cut 265 = .ok (.invokevirtual 146, 3) := by decide +kernel
theorem dX12_cut_268 : decode cX12_cut 268 = .ok (.iload_n 1, 1) := by decide +kernel
theorem dX12_cut_269 : decode cX12_cut 269 = .ok (.iload_n 3, 1) := by decide +kernel
theorem dX12_cut_270 : decode cX12_cut 270 = .ok (.iadd, 1) := by decide +kernel
theorem dX12_cut_271 : decode cX12_cut 271 = .ok (.istore_n 1, 1) := by decide +kernel
theorem dX12_cut_272 : decode cX12_cut 272 = .ok (.goto 19, 3) := by decide +kernel
theorem dX12_cut_275 : decode cX12_cut 275 = .ok (.iload_n 1, 1) := by decide +kernel
theorem dX12_cut_276 : decode cX12_cut 276 = .ok (.aload_n 0, 1) := by decide +kernel
theorem dX12_cut_277 : decode cX12_cut 277 = .ok (.iload_n 1, 1) := by decide +kernel
theorem dX12_cut_278 : decode cX12_cut 278 = .ok (.iload_n 2, 1) := by decide +kernel
theorem dX12_cut_279 : decode cX12_cut 279 = .ok (.aload_n 0, 1) := by decide +kernel
theorem dX12_cut_280 : decode cX12_cut 280 = .ok (.iload_n 1, 1) := by decide +kernel
theorem dX12_cut_281 : decode cX12_cut 281 = .ok (.iconst 1, 1) := by decide +kernel
theorem dX12_cut_282 : decode cX12_cut 282 = .ok (.iadd, 1) := by decide +kernel
theorem dX12_cut_283 : decode cX12_cut 283 = .ok (.invokevirtual 142, 3) := by decide +kernel
theorem dX12_cut_286 : decode cX12_cut 286 = .ok (.invokevirtual 157, 3) := by decide +kernel
theorem dX12_cut_289 : decode cX12_cut 289 = .ok (.iadd, 1) := by decide +kernel
theorem dX12_cut_290 : decode cX12_cut 290 = .ok (.istore_n 1, 1) := by decide +kernel
theorem dX12_cut_291 : decode cX12_cut 291 = .ok (.goto (-284), 3) := by decide +kernel
theorem dX12_cut_294 : decode cX12_cut 294 = .ok (.return_, 1) := by decide +kernel
set_option maxRecDepth 20000 in
theorem ggX12_sign_X12_token : GoodIn wsX12_sign wsX12_token := goodIn_r _ [5, 6, 7, 8, 9, 10, 11, 12, 13, 14, 15, 16, 17, 18, 19, 20, 21, 22, 23, 24, 25, 26, 27, 28, 29, 30, 31, 32, 33, 34, 35, 36, 37, 38, 39, 40, 41, 42, 43, 44, 45, 46, 47, 48, 49, 50, 51, 52, 53, 54, 55, 56, 57, 58, 59, 60, 61, 62, 63, 64, 65] (by decide +kernel) (by decide +kernel)
set_option maxRecDepth 20000 in
theorem gX12_sign_X12_token : GoodIn wsX12_sign (wsV RX12 146 RX12 yX12_token wsX12_token) := goodIn_app (goodIn_of _ (by decide +kernel)) ggX12_sign_X12_token
theorem dX12_sign_0 : decode cX12_sign 0 = .ok (.aload_n 0, 1) := by decide +kernel
theorem dX12_sign_1 : decode cX12_sign 1 = .ok (.iload_n 2, 1) := by decide +kernel
theorem dX12_sign_2 : decode cX12_sign 2 = .ok (.bipush 59, 2) := by decide +kernel
theorem dX12_sign_4 : decode cX12_sign 4 = .ok (.if_icmp .ne 7, 3) := by decide +kernel
theorem dX12_sign_7 : decode cX12_sign 7 = .ok (.iconst 4, 1) := by decide +kernel
theorem dX12_sign_8 : decode cX12_sign 8 = .ok (.goto 15, 3) := by decide +kernel
theorem dX12_sign_11 : decode cX12_sign 11 = .ok (.iload_n 2, 1) := by decide +kernel
theorem dX12_sign_12 : decode cX12_sign 12 = .ok (.bipush 45, 2) := by decide +kernel
theorem dX12_sign_14 : decode cX12_sign 14 = .ok (.if_icmp .ne 8, 3) := by decide +kernel
theorem dX12_sign_17 : decode cX12_sign 17 = .ok (.bipush 9, 2) := by decide +kernel
theorem dX12_sign_19 : decode cX12_sign 19 = .ok (.goto 4, 3) := by decide +kernel
theorem dX12_sign_22 : decode cX12_sign 22 = .ok (.iconst 3, 1) := by decide +kernel
theorem dX12_sign_23 : decode cX12_sign 23 = .ok (.iload_n 1, 1) := by decide +kernel
theorem dX12_sign_24 : decode cX12_sign 24 = .ok (.iconst 0, 1) := by decide +kernel
theorem dX12_sign_25 : decode cX12_sign 25 = .ok (.lconst 0, 1) := by decide +kernel
theorem dX12_sign_26 : decode cX12_sign 26 = .ok (.invokevirtual 146, 3) := by decide +kernel
theorem dX12_sign_29 : decode cX12_sign 29 = .ok (.iconst 1, 1) := by decide +kernel
theorem dX12_sign_30 : decode cX12_sign 30 = .ok (.ireturn, 1) := by decide +kernel
theorem dX12_is_0 : decode cX12_is 0 = .ok (.aload_n 0, 1) := by decide +kernel
theorem dX12_is_1 : decode cX12_is 1 = .ok (.getfield 161, 3) := by decide +kernel
theorem dX12_is_4 : decode cX12_is 4 = .ok (.ifCond .ne 20, 3) := by decide +kernel
theorem dX12_is_7 : decode cX12_is 7 = .ok (.aload_n 0, 1) := by decide +kernel
theorem dX12_is_8 : decode cX12_is 8 = .ok (.getfield 20, 3) := by decide +kernel
theorem dX12_is_11 : decode cX12_is 11 = .ok (.aload_n 0, 1) := by decide +kernel
theorem dX12_is_12 : decode cX12_is 12 = .ok (.getfield 164, 3) := by decide +kernel
theorem dX12_is_15 : decode cX12_is 15 = .ok (.iaload, 1) := by decide +kernel
theorem dX12_is_16 : decode cX12_is 16 = .ok (.iload_n 1, 1) := by decide +kernel
theorem dX12_is_17 : decode cX12_is 17 = .ok (.if_icmp .ne 7, 3) := by decide +kernel
theorem dX12_is_20 : decode cX12_is 20 = .ok (.iconst 1, 1) := by decide +kernel
theorem dX12_is_21 : decode cX12_is 21 = .ok (.goto 4, 3) := by decide +kernel
theorem dX12_is_24 : decode cX12_is 24 = .ok (.iconst 0, 1) := by decide +kernel
theorem dX12_is_25 : decode cX12_is 25 = .ok (.ireturn, 1) := by decide +kernel
theorem dX12_fail_0 : decode cX12_fail 0 = .ok (.aload_n 0, 1) := by decide +kernel
theorem dX12_fail_1 : decode cX12_fail 1 = .ok (.getfield 161, 3) := by decide +kernel
theorem dX12_fail_4 : decode cX12_fail 4 = .ok (.ifCond .le 4, 3) := by decide +kernel
theorem dX12_fail_7 : decode cX12_fail 7 = .ok (.return_, 1) := by decide +kernel
theorem dX12_fail_8 : decode cX12_fail 8 = .ok (.aload_n 0, 1) := by decide +kernel
theorem dX12_fail_9 : decode cX12_fail 9 = .ok (.iload_n 1, 1) := by decide +kernel
theorem dX12_fail_10 : decode cX12_fail 10 = .ok (.putfield 161, 3) := by decide +kernel
theorem dX12_fail_13 : decode cX12_fail 13 = .ok (.aload_n 0, 1) := by decide +kernel
theorem dX12_fail_14 : decode cX12_fail 14 = .ok (.aload_n 0, 1) := by decide +kernel
theorem dX12_fail_15 : decode cX12_fail 15 = .ok (.getfield 24, 3) := by decide +kernel
theorem dX12_fail_18 : decode cX12_fail 18 = .ok (.aload_n 0, 1) := by decide +kernel
theorem dX12_fail_19 : decode cX12_fail 19 = .ok (.getfield 164, 3) := by decide +kernel
theorem dX12_fail_22 : decode cX12_fail 22 = .ok (.iaload, 1) := by decide +kernel
theorem dX12_fail_23 : decode cX12_fail 23 = .ok (.putfield 167, 3) := by decide +kernel
theorem dX12_fail_26 : decode cX12_fail 26 = .ok (.aload_n 0, 1) := by decide +kernel
theorem dX12_fail_27 : decode cX12_fail 27 = .ok (.aload_n 0, 1) := by decide +kernel
theorem dX12_fail_28 : decode cX12_fail 28 = .ok (.getfield 170, 3) := by decide +kernel
theorem dX12_fail_31 : decode cX12_fail 31 = .ok (.putfield 173, 3) := by decide +kernel
theorem dX12_fail_34 : decode cX12_fail 34 = .ok (.return_, 1) := by decide +kernel
theorem dX12_wrong_0 : decode cX12_wrong 0 = .ok (.aload_n 0, 1) := by decide +kernel
theorem dX12_wrong_1 : decode cX12_wrong 1 = .ok (.getfield 24, 3) := by decide +kernel
theorem dX12_wrong_4 : decode cX12_wrong 4 = .ok (.iload_n 2, 1) := by decide +kernel
theorem dX12_wrong_5 : decode cX12_wrong 5 = .ok (.iaload, 1) := by decide +kernel
theorem dX12_wrong_6 : decode cX12_wrong 6 = .ok (.istore_n 3, 1) := by decide +kernel
theorem dX12_wrong_7 : decode cX12_wrong 7 = .ok (.aload_n 0, 1) := by decide +kernel
theorem dX12_wrong_8 : decode cX12_wrong 8 = .ok (.getfield 161, 3) := by decide +kernel
theorem dX12_wrong_11 : decode cX12_wrong 11 = .ok (.ifCond .gt 34, 3) := by decide +kernel
theorem dX12_wrong_14 : decode cX12_wrong 14 = .ok (.aload_n 0, 1) := by decide +kernel
theorem dX12_wrong_15 : decode cX12_wrong 15 = .ok (.getfield 176, 3) := by decide +kernel
theorem dX12_wrong_18 : decode cX12_wrong 18 = .ok (.ifCond .eq 28, 3) := by decide +kernel
theorem dX12_wrong_21 : decode cX12_wrong 21 = .ok (.iload_n 3, 1) := by decide +kernel
theorem dX12_wrong_22 : decode cX12_wrong 22 = .ok (.aload_n 0, 1) := by decide +kernel
theorem dX12_wrong_23 : decode cX12_wrong 23 = .ok (.getfield 179, 3) := by decide +kernel
theorem dX12_wrong_26 : decode cX12_wrong 26 = .ok (.if_icmp .gt 19, 3) := by decide +kernel
theorem dX12_wrong_29 : decode cX12_wrong 29 = .ok (.iload_n 3, 1) := by decide +kernel
theorem dX12_wrong_30 : decode cX12_wrong 30 = .ok (.aload_n 0, 1) := by decide +kernel
theorem dX12_wrong_31 : decode cX12_wrong 31 = .ok (.getfield 179, 3) := by decide +kernel
theorem dX12_wrong_34 : decode cX12_wrong 34 = .ok (.if_icmp .ne 12, 3) := by decide +kernel
theorem dX12_wrong_37 : decode cX12_wrong 37 = .ok (.iload_n 1, 1) := by decide +kernel
theorem dX12_wrong_38 : decode cX12_wrong 38 = .ok (.aload_n 0, 1) := by decide +kernel
theorem dX12_wrong_39 : decode cX12_wrong 39 = .ok (.getfield 176, 3) := by decide +kernel
theorem dX12_wrong_42 : decode cX12_wrong 42 = .ok (.if_icmp .lt 4, 3) := by decide +kernel
theorem dX12_wrong_45 : decode cX12_wrong 45 = .ok (.return_, 1) := by decide +kernel
theorem dX12_wrong_46 : decode cX12_wrong 46 = .ok (.aload_n 0, 1) := by decide +kernel
theorem dX12_wrong_47 : decode cX12_wrong 47 = .ok (.iload_n 1, 1) := by decide +kernel
theorem dX12_wrong_48 : decode cX12_wrong 48 = .ok (.putfield 176, 3) := by decide +kernel
theorem dX12_wrong_51 : decode cX12_wrong 51 = .ok (.aload_n 0, 1) := by decide +kernel
theorem dX12_wrong_52 : decode cX12_wrong 52 = .ok (.iload_n 3, 1) := by decide +kernel
theorem dX12_wrong_53 : decode cX12_wrong 53 = .ok (.putfield 179, 3) := by decide +kernel
theorem dX12_wrong_56 : decode cX12_wrong 56 = .ok (.aload_n 0, 1) := by decide +kernel
theorem dX12_wrong_57 : decode cX12_wrong 57 = .ok (.aload_n 0, 1) := by decide +kernel
theorem dX12_wrong_58 : decode cX12_wrong 58 = .ok (.getfield 170, 3) := by decide +kernel
theorem dX12_wrong_61 : decode cX12_wrong 61 = .ok (.putfield 182, 3) := by decide +kernel
theorem dX12_wrong_64 : decode cX12_wrong 64 = .ok (.return_, 1) := by decide +kernel
set_option maxRecDepth 20000 in
theorem ggX12_goesOn_X12_fail : GoodIn wsX12_goesOn wsX12_fail := goodIn_r _ [6, 7, 8, 1, 9, 10, 11, 12, 13, 14, 15, 16, 17, 18, 19, 20, 21, 22, 23, 24, 25, 26, 27, 28, 29, 30, 31, 32, 33, 34, 35, 36, 37, 38, 39, 40, 41, 42, 43, 44, 45, 46, 47, 48, 49, 50, 51, 52, 53, 54, 55, 56, 57, 58, 59, 60, 61, 62, 63, 64, 65, 66] (by decide +kernel) (by decide +kernel)
set_option maxRecDepth 20000 in
theorem gX12_goesOn_X12_fail : GoodIn wsX12_goesOn (wsV RX12 185 RX12 yX12_fail wsX12_fail) := goodIn_app (goodIn_of _ (by decide +kernel)) ggX12_goesOn_X12_fail
theorem dX12_goesOn_0 : decode cX12_goesOn 0 = .ok (.aload_n 0, 1) := by decide +kernel
theorem dX12_goesOn_1 : decode cX12_goesOn 1 = .ok (.getfield 164, 3) := by decide +kernel
theorem dX12_goesOn_4 : decode cX12_goesOn 4 = .ok (.sipush 400, 3) := by decide +kernel
theorem dX12_goesOn_7 : decode cX12_goesOn 7 = .ok (.if_icmp .ne 11, 3) := by decide +kernel
theorem dX12_goesOn_10 : decode cX12_goesOn 10 = .ok (.aload_n 0, 1) := by decide +kernel
theorem dX12_goesOn_11 : decode cX12_goesOn 11 = .ok (.iconst 2, 1) := by decide +kernel
theorem dX12_goesOn_12 : decode cX12_goesOn 12 = .ok (.invokevirtual 185, 3) := by decide +kernel
theorem dX12_goesOn_15 : decode cX12_goesOn 15 = .ok (.goto 13, 3) := by decide +kernel
theorem dX12_goesOn_18 : decode cX12_goesOn 18 = .ok (.aload_n 0, 1) := by decide +kernel
theorem dX12_goesOn_19 : decode cX12_goesOn 19 = .ok (.dup, 1) := by decide +kernel
theorem dX12_goesOn_20 : decode cX12_goesOn 20 = .ok (.getfield 164, 3) := by decide +kernel
theorem dX12_goesOn_23 : decode cX12_goesOn 23 = .ok (.iconst 1, 1) := by decide +kernel
theorem dX12_goesOn_24 : decode cX12_goesOn 24 = .ok (.iadd, 1) := by decide +kernel
theorem dX12_goesOn_25 : decode cX12_goesOn 25 = .ok (.putfield 164, 3) := by decide +kernel
theorem dX12_goesOn_28 : decode cX12_goesOn 28 = .ok (.return_, 1) := by decide +kernel
set_option maxRecDepth 20000 in
theorem ggX12_must_X12_is : GoodIn wsX12_must wsX12_is := goodIn_r _ [5, 6, 7, 8, 21, 22, 23, 24, 25, 26, 27, 28, 29, 30, 31, 32, 33, 34, 35, 36, 37, 38, 39, 40, 41, 42, 43, 44, 45, 46, 47, 48, 49, 50, 51, 52, 53, 54, 55, 56, 57, 58, 59, 60, 61, 62, 63, 64, 65, 66, 67, 68, 69, 70, 71, 72, 73, 74, 75] (by decide +kernel) (by decide +kernel)
set_option maxRecDepth 20000 in
theorem gX12_must_X12_is : GoodIn wsX12_must (wsV RX12 188 RX12 yX12_is wsX12_is) := goodIn_app (goodIn_of _ (by decide +kernel)) ggX12_must_X12_is
set_option maxRecDepth 20000 in
theorem ggX12_must_X12_goesOn : GoodIn wsX12_must wsX12_goesOn := goodIn_r _ [12, 8, 13, 14, 15, 4, 16, 6, 17, 18, 19, 20, 21, 22, 23, 24, 25, 26, 27, 28, 29, 30, 31, 32, 33, 34, 35, 36, 37, 38, 39, 40, 41, 42, 43, 44, 45, 46, 47, 48, 49, 50, 51, 52, 53, 54, 55, 56, 57, 58, 59, 60, 61, 62, 63, 64, 65, 66, 67, 68, 69, 70, 71, 72, 73, 74, 75] (by decide +kernel) (by decide +kernel)
set_option maxRecDepth 20000 in
theorem gX12_must_X12_goesOn : GoodIn wsX12_must (wsV RX12 191 RX12 yX12_goesOn wsX12_goesOn) := goodIn_app (goodIn_of _ (by decide +kernel)) ggX12_must_X12_goesOn
set_option maxRecDepth 20000 in
theorem ggX12_must_X12_fail : GoodIn wsX12_must wsX12_fail := goodIn_r _ [16, 6, 17, 8, 18, 19, 20, 21, 22, 23, 24, 25, 26, 27, 28, 29, 30, 31, 32, 33, 34, 35, 36, 37, 38, 39, 40, 41, 42, 43, 44, 45, 46, 47, 48, 49, 50, 51, 52, 53, 54, 55, 56, 57, 58, 59, 60, 61, 62, 63, 64, 65, 66, 67, 68, 69, 70, 71, 72, 73, 74, 75] (by decide +kernel) (by decide +kernel)
set_option maxRecDepth 20000 in
theorem gX12_must_X12_fail : GoodIn wsX12_must (wsV RX12 185 RX12 yX12_fail wsX12_fail) := goodIn_app (goodIn_of _ (by decide +kernel)) ggX12_must_X12_fail
theorem dX12_must_0 : decode cX12_must 0 = .ok (.aload_n 0, 1) := by decide +kernel
theorem dX12_must_1 : decode cX12_must 1 = .ok (.iload_n 1, 1) := by decide +kernel
theorem dX12_must_2 : decode cX12_must 2 = .ok (.invokevirtual 188, 3) := by decide +kernel
theorem dX12_must_5 : decode cX12_must 5 = .ok (.ifCond .eq 10, 3) := by decide +kernel
theorem dX12_must_8 : decode cX12_must 8 = .ok (.aload_n 0, 1) := by decide +kernel
theorem dX12_must_9 : decode cX12_must 9 = .ok (.invokevirtual 191, 3) := by decide +kernel
theorem dX12_must_12 : decode cX12_must 12 = .ok (.goto 8, 3) := by decide +kernel
theorem dX12_must_15 : decode cX12_must 15 = .ok (.aload_n 0, 1) := by decide +kernel
theorem dX12_must_16 : decode cX12_must 16 = .ok (.iconst 1, 1) := by decide +kernel
theorem dX12_must_17 : decode cX12_must 17 = .ok (.invokevirtual 185, 3) := by decide +kernel
theorem dX12_must_20 : decode cX12_must 20 = .ok (.return_, 1) := by decide +kernel
theorem dX12_plain_0 : decode cX12_plain 0 = .ok (.aload_n 0, 1) := by decide +kernel
theorem dX12_plain_1 : decode cX12_plain 1 = .ok (.getfield 43, 3) := by decide +kernel
theorem dX12_plain_4 : decode cX12_plain 4 = .ok (.iload_n 1, 1) := by decide +kernel
theorem dX12_plain_5 : decode cX12_plain 5 = .ok (.iconst 0, 1) := by decide +kernel
theorem dX12_plain_6 : decode cX12_plain 6 = .ok (.iastore, 1) := by decide +kernel
theorem dX12_plain_7 : decode cX12_plain 7 = .ok (.aload_n 0, 1) := by decide +kernel
theorem dX12_plain_8 : decode cX12_plain 8 = .ok (.getfield 49, 3) := by decide +kernel
theorem dX12_plain_11 : decode cX12_plain 11 = .ok (.iload_n 1, 1) := by decide +kernel
theorem dX12_plain_12 : decode cX12_plain 12 = .ok (.iconst 0, 1) := by decide +kernel
theorem dX12_plain_13 : decode cX12_plain 13 = .ok (.iastore, 1) := by decide +kernel
theorem dX12_plain_14 : decode cX12_plain 14 = .ok (.aload_n 0, 1) := by decide +kernel
theorem dX12_plain_15 : decode cX12_plain 15 = .ok (.getfield 58, 3) := by decide +kernel
theorem dX12_plain_18 : decode cX12_plain 18 = .ok (.iload_n 1, 1) := by decide +kernel
theorem dX12_plain_19 : decode cX12_plain 19 = .ok (.iconst 2, 1) := by decide +kernel
theorem dX12_plain_20 : decode cX12_plain 20 = .ok (.iastore, 1) := by decide +kernel
theorem dX12_plain_21 : decode cX12_plain 21 = .ok (.aload_n 0, 1) := by decide +kernel
theorem dX12_plain_22 : decode cX12_plain 22 = .ok (.getfield 61, 3) := by decide +kernel
theorem dX12_plain_25 : decode cX12_plain 25 = .ok (.iload_n 1, 1) := by decide +kernel
theorem dX12_plain_26 : decode cX12_plain 26 = .ok (.iconst 0, 1) := by decide +kernel
theorem dX12_plain_27 : decode cX12_plain 27 = .ok (.iastore, 1) := by decide +kernel
theorem dX12_plain_28 : decode cX12_plain 28 = .ok (.aload_n 0, 1) := by decide +kernel
theorem dX12_plain_29 : decode cX12_plain 29 = .ok (.getfield 64, 3) := by decide +kernel
theorem dX12_plain_32 : decode cX12_plain 32 = .ok (.iload_n 1, 1) := by decide +kernel
theorem dX12_plain_33 : decode cX12_plain 33 = .ok (.iconst 0, 1) := by decide +kernel
theorem dX12_plain_34 : decode cX12_plain 34 = .ok (.iastore, 1) := by decide +kernel
theorem dX12_plain_35 : decode cX12_plain 35 = .ok (.aload_n 0, 1) := by decide +kernel
theorem dX12_plain_36 : decode cX12_plain 36 = .ok (.getfield 67, 3) := by decide +kernel
theorem dX12_plain_39 : decode cX12_plain 39 = .ok (.iload_n 1, 1) := by decide +kernel
theorem dX12_plain_40 : decode cX12_plain 40 = .ok (.bipush 8, 2) := by decide +kernel
theorem dX12_plain_42 : decode cX12_plain 42 = .ok (.iastore, 1) := by decide +kernel
theorem dX12_plain_43 : decode cX12_plain 43 = .ok (.return_, 1) := by decide +kernel
set_option maxRecDepth 20000 in
theorem ggX12_read_X12_cut : GoodIn wsX12_read wsX12_cut := goodIn_r _ [24, 25, 2, 26, 27, 28, 29, 23, 30, 3, 31, 32, 33, 34, 35, 36, 37, 38, 39, 40, 41, 42, 43, 44, 45, 46, 47, 48, 49, 50, 51, 52, 130, 131, 132, 133, 134, 135, 136, 137, 138, 139, 140, 141, 142, 143, 144, 145, 146, 147, 148, 149, 150, 151, 152, 153, 154, 155, 156, 157, 158, 159, 160, 161, 162, 163, 164, 165, 166, 167, 168, 169, 170, 171, 172, 173, 174, 175, 176, 177, 178, 179, 180, 181, 182, 183, 184] (by decide +kernel) (by decide +kernel)
set_option maxRecDepth 20000 in
theorem gX12_read_X12_cut : GoodIn wsX12_read (wsV RX12 194 RX12 yX12_cut wsX12_cut) := goodIn_app (goodIn_of _ (by decide +kernel)) ggX12_read_X12_cut
set_option maxRecDepth 20000 in
theorem ggX12_read_X12_plain : GoodIn wsX12_read wsX12_plain := goodIn_r _ [56, 57, 58, 59, 60, 61, 62, 130, 131, 132, 133, 134, 135, 136, 137, 138, 139, 140, 141, 142, 143, 144, 145, 146, 147, 148, 149, 150, 151, 152, 153, 154, 155, 156, 157, 158, 159, 160, 161, 162, 163, 164, 165, 166, 167, 168, 169, 170, 171, 172, 173, 174, 175, 176, 177, 178, 179, 180, 181, 182, 183, 184] (by decide +kernel) (by decide +kernel)
set_option maxRecDepth 20000 in
theorem gX12_read_X12_plain : GoodIn wsX12_read (wsV RX12 107 RX12 yX12_plain wsX12_plain) := goodIn_app (goodIn_of _ (by decide +kernel)) ggX12_read_X12_plain
set_option maxRecDepth 20000 in
theorem ggX12_read_X12_is : GoodIn wsX12_read wsX12_is := goodIn_r _ [66, 6, 35, 5, 130, 131, 132, 133, 134, 135, 136, 137, 138, 139, 140, 141, 142, 143, 144, 145, 146, 147, 148, 149, 150, 151, 152, 153, 154, 155, 156, 157, 158, 159, 160, 161, 162, 163, 164, 165, 166, 167, 168, 169, 170, 171, 172, 173, 174, 175, 176, 177, 178, 179, 180, 181, 182, 183, 184] (by decide +kernel) (by decide +kernel)
set_option maxRecDepth 20000 in
theorem gX12_read_X12_is : GoodIn wsX12_read (wsV RX12 188 RX12 yX12_is wsX12_is) := goodIn_app (goodIn_of _ (by decide +kernel)) ggX12_read_X12_is
set_option maxRecDepth 20000 in
theorem ggX12_read_X12_tellOne : GoodIn wsX12_read wsX12_tellOne := goodIn_r _ [70, 35, 5, 6, 58, 10, 59, 60, 61, 62, 71, 72, 73, 23, 74, 75, 76, 77, 78, 36, 12, 8, 15, 79, 80, 81, 82, 57, 83, 84, 85, 86, 87, 88, 63, 64, 65, 66, 89, 90, 91, 92, 93, 94, 95, 96, 37, 97, 98, 99, 100, 7, 13, 16, 101, 102, 103, 104, 105, 106, 107, 108, 11, 109, 38, 110, 111, 112, 113, 114, 115, 116, 117, 118, 119, 130, 131, 132, 133, 134, 135, 136, 137, 138, 139, 140, 141, 142, 143, 144, 145, 146, 147, 148, 149, 150, 151, 152, 153, 154, 155, 156, 157, 158, 159, 160, 161, 162, 163, 164, 165, 166, 167, 168, 169, 170, 171, 172, 173, 174, 175, 176, 177, 178, 179, 180, 181, 182, 183, 184] (by decide +kernel) (by decide +kernel)
set_option maxRecDepth 20000 in
theorem gX12_read_X12_tellOne : GoodIn wsX12_read (wsV RX12 206 RX12 yX12_tellOne wsX12_tellOne) := goodIn_app (goodIn_of _ (by decide +kernel)) ggX12_read_X12_tellOne
set_option maxRecDepth 20000 in
theorem ggX12_read_X12_begins : GoodIn wsX12_read wsX12_begins := goodIn_r _ [123, 124, 57, 9, 83, 59, 60, 61, 62, 130, 131, 132, 133, 134, 135, 136, 137, 138, 139, 140, 141, 142, 143, 144, 145, 146, 147, 148, 149, 150, 151, 152, 153, 154, 155, 156, 157, 158, 159, 160, 161, 162, 163, 164, 165, 166, 167, 168, 169, 170, 171, 172, 173, 174, 175, 176, 177, 178, 179, 180, 181, 182, 183, 184] (by decide +kernel) (by decide +kernel)
set_option maxRecDepth 20000 in
theorem gX12_read_X12_begins : GoodIn wsX12_read (wsV RX12 118 RX12 yX12_begins wsX12_begins) := goodIn_app (goodIn_of _ (by decide +kernel)) ggX12_read_X12_begins
set_option maxRecDepth 20000 in
theorem ggX12_read_X12_keepsRow : GoodIn wsX12_read wsX12_keepsRow := goodIn_r _ [128, 129, 124, 130, 131, 132, 133, 134, 135, 136, 137, 138, 139, 140, 141, 142, 143, 144, 145, 146, 147, 148, 149, 150, 151, 152, 153, 154, 155, 156, 157, 158, 159, 160, 161, 162, 163, 164, 165, 166, 167, 168, 169, 170, 171, 172, 173, 174, 175, 176, 177, 178, 179, 180, 181, 182, 183, 184] (by decide +kernel) (by decide +kernel)
set_option maxRecDepth 20000 in
theorem gX12_read_X12_keepsRow : GoodIn wsX12_read (wsV RX12 121 RX12 yX12_keepsRow wsX12_keepsRow) := goodIn_app (goodIn_of _ (by decide +kernel)) ggX12_read_X12_keepsRow
theorem dX12_read_0 : decode cX12_read 0 = .ok (.aload_n 0, 1) := by decide +kernel
theorem dX12_read_1 : decode cX12_read 1 = .ok (.aload_n 0, 1) := by decide +kernel
theorem dX12_read_2 : decode cX12_read 2 = .ok (.getfield 124, 3) := by decide +kernel
theorem dX12_read_5 : decode cX12_read 5 = .ok (.putfield 130, 3) := by decide +kernel
theorem dX12_read_8 : decode cX12_read 8 = .ok (.iconst 0, 1) := by decide +kernel
theorem dX12_read_9 : decode cX12_read 9 = .ok (.istore_n 1, 1) := by decide +kernel
theorem dX12_read_10 : decode cX12_read 10 = .ok (.iload_n 1, 1) := by decide +kernel
theorem dX12_read_11 : decode cX12_read 11 = .ok (.aload_n 0, 1) := by decide +kernel
theorem dX12_read_12 : decode cX12_read 12 = .ok (.getfield 130, 3) := by decide +kernel
theorem dX12_read_15 : decode cX12_read 15 = .ok (.if_icmp .ge 21, 3) := by decide +kernel
theorem dX12_read_18 : decode cX12_read 18 = .ok (.aload_n 0, 1) := by decide +kernel
theorem dX12_read_19 : decode cX12_read 19 = .ok (.getfield 17, 3) := by decide +kernel
theorem dX12_read_22 : decode cX12_read 22 = .ok (.iload_n 1, 1) := by decide +kernel
theorem dX12_read_23 : decode cX12_read 23 = .ok (.aload_n 0, 1) := by decide +kernel
theorem dX12_read_24 : decode cX12_read 24 = .ok (.getfield 13, 3) := by decide +kernel
theorem dX12_read_27 : decode cX12_read 27 = .ok (.iload_n 1, 1) := by decide +kernel
theorem dX12_read_28 : decode cX12_read 28 = .ok (.baload, 1) := by decide +kernel
theorem dX12_read_29 : decode cX12_read 29 = .ok (.bastore, 1) := by decide +kernel
theorem dX12_read_30 : decode cX12_read 30 = .ok (.iinc 1 1, 3) := by decide +kernel
theorem dX12_read_33 : decode cX12_read 33 = .ok (.goto (-23), 3) := by decide +kernel
theorem dX12_read_36 : decode cX12_read 36 = .ok (.aload_n 0, 1) := by decide +kernel
theorem dX12_read_37 : decode cX12_read 37 = .ok (.iconst 0, 1) := by decide +kernel
theorem dX12_read_38 : decode cX12_read 38 = .ok (.putfield 124, 3) := by decide +kernel
theorem dX12_read_41 : decode cX12_read 41 = .ok (.aload_n 0, 1) := by decide +kernel
theorem dX12_read_42 : decode cX12_read 42 = .ok (.invokevirtual 194, 3) := by decide +kernel
theorem dX12_read_45 : decode cX12_read 45 = .ok (.aload_n 0, 1) := by decide +kernel
theorem dX12_read_46 : decode cX12_read 46 = .ok (.iconst 0, 1) := by decide +kernel
theorem dX12_read_47 : decode cX12_read 47 = .ok (.putfield 164, 3) := by decide +kernel
theorem dX12_read_50 : decode cX12_read 50 = .ok (.aload_n 0, 1) := by decide +kernel
theorem dX12_read_51 : decode cX12_read 51 = .ok (.iconst 0, 1) := by decide +kernel
theorem dX12_read_52 : decode cX12_read 52 = .ok (.putfield 161, 3) := by decide +kernel
theorem dX12_read_55 : decode cX12_read 55 = .ok (.aload_n 0, 1) := by decide +kernel
theorem dX12_read_56 : decode cX12_read 56 = .ok (.iconst 0, 1) := by decide +kernel
theorem dX12_read_57 : decode cX12_read 57 = .ok (.putfield 176, 3) := by decide +kernel
theorem dX12_read_60 : decode cX12_read 60 = .ok (.aload_n 0, 1) := by decide +kernel
theorem dX12_read_61 : decode cX12_read 61 = .ok (.bipush (-2), 2) := by decide +kernel
theorem dX12_read_63 : decode cX12_read 63 = .ok (.putfield 170, 3) := by decide +kernel
theorem dX12_read_66 : decode cX12_read 66 = .ok (.aload_n 0, 1) := by decide +kernel
theorem dX12_read_67 : decode cX12_read 67 = .ok (.iconst 1, 1) := by decide +kernel
theorem dX12_read_68 : decode cX12_read 68 = .ok (.aload_n 0, 1) := by decide +kernel
theorem dX12_read_69 : decode cX12_read 69 = .ok (.getfield 197, 3) := by decide +kernel
theorem dX12_read_72 : decode cX12_read 72 = .ok (.isub, 1) := by decide +kernel
theorem dX12_read_73 : decode cX12_read 73 = .ok (.putfield 200, 3) := by decide +kernel
theorem dX12_read_76 : decode cX12_read 76 = .ok (.aload_n 0, 1) := by decide +kernel
theorem dX12_read_77 : decode cX12_read 77 = .ok (.iconst 0, 1) := by decide +kernel
theorem dX12_read_78 : decode cX12_read 78 = .ok (.putfield 203, 3) := by decide +kernel
theorem dX12_read_81 : decode cX12_read 81 = .ok (.aload_n 0, 1) := by decide +kernel
theorem dX12_read_82 : decode cX12_read 82 = .ok (.aload_n 0, 1) := by decide +kernel
theorem dX12_read_83 : decode cX12_read 83 = .ok (.getfield 200, 3) := by decide +kernel
theorem dX12_read_86 : decode cX12_read 86 = .ok (.invokevirtual 107, 3) := by decide +kernel
theorem dX12_read_89 : decode cX12_read 89 = .ok (.aload_n 0, 1) := by decide +kernel
theorem dX12_read_90 : decode cX12_read 90 = .ok (.getfield 161, 3) := by decide +kernel
theorem dX12_read_93 : decode cX12_read 93 = .ok (.ifCond .ne 18, 3) := by decide +kernel
theorem dX12_read_96 : decode cX12_read 96 = .ok (.aload_n 0, 1) := by decide +kernel
theorem dX12_read_97 : decode cX12_read 97 = .ok (.iconst 0, 1) := by decide +kernel
theorem dX12_read_98 : decode cX12_read 98 = .ok (.invokevirtual 188, 3) := by decide +kernel
theorem dX12_read_101 : decode cX12_read 101 = .ok (.ifCond .ne 10, 3) := by decide +kernel
theorem dX12_read_104 : decode cX12_read 104 = .ok (.aload_n 0, 1) := by decide +kernel
theorem dX12_read_105 : decode cX12_read 105 = .ok (.invokevirtual 206, 3) := by decide +kernel
theorem dX12_read_108 : decode cX12_read 108 = .ok (.goto (-19), 3) := by decide +kernel
theorem dX12_read_111 : decode cX12_read 111 = .ok (.aload_n 0, 1) := by decide +kernel
theorem dX12_read_112 : decode cX12_read 112 = .ok (.aload_n 0, 1) := by decide +kernel
theorem dX12_read_113 : decode cX12_read 113 = .ok (.getfield 161, 3) := by decide +kernel
theorem dX12_read_116 : decode cX12_read 116 = .ok (.ifCond .le 10, 3) := by decide +kernel
theorem dX12_read_119 : decode cX12_read 119 = .ok (.aload_n 0, 1) := by decide +kernel
theorem dX12_read_120 : decode cX12_read 120 = .ok (.getfield 167, 3) := by decide +kernel
theorem dX12_read_123 : decode cX12_read 123 = .ok (.goto 18, 3) := by decide +kernel
theorem dX12_read_126 : decode cX12_read 126 = .ok (.aload_n 0, 1) := by decide +kernel
theorem dX12_read_127 : decode cX12_read 127 = .ok (.getfield 176, 3) := by decide +kernel
theorem dX12_read_130 : decode cX12_read 130 = .ok (.ifCond .le 10, 3) := by decide +kernel
theorem dX12_read_133 : decode cX12_read 133 = .ok (.aload_n 0, 1) := by decide +kernel
theorem dX12_read_134 : decode cX12_read 134 = .ok (.getfield 179, 3) := by decide +kernel
theorem dX12_read_137 : decode cX12_read 137 = .ok (.goto 4, 3) := by decide +kernel
theorem dX12_read_140 : decode cX12_read 140 = .ok (.iconst (-1), 1) := by decide +kernel
theorem dX12_read_141 : decode cX12_read 141 = .ok (.putfield 37, 3) := by decide +kernel
theorem dX12_read_144 : decode cX12_read 144 = .ok (.aload_n 0, 1) := by decide +kernel
theorem dX12_read_145 : decode cX12_read 145 = .ok (.aload_n 0, 1) := by decide +kernel
theorem dX12_read_146 : decode cX12_read 146 = .ok (.getfield 161, 3) := by decide +kernel
theorem dX12_read_149 : decode cX12_read 149 = .ok (.ifCond .le 10, 3) := by decide +kernel
theorem dX12_read_152 : decode cX12_read 152 = .ok (.aload_n 0, 1) := by decide +kernel
theorem dX12_read_153 : decode cX12_read 153 = .ok (.getfield 173, 3) := by decide +kernel
theorem dX12_read_156 : decode cX12_read 156 = .ok (.goto 18, 3) := by decide +kernel
theorem dX12_read_159 : decode cX12_read 159 = .ok (.aload_n 0, 1) := by decide +kernel
theorem dX12_read_160 : decode cX12_read 160 = .ok (.getfield 176, 3) := by decide +kernel
theorem dX12_read_163 : decode cX12_read 163 = .ok (.ifCond .le 10, 3) := by decide +kernel
theorem dX12_read_166 : decode cX12_read 166 = .ok (.aload_n 0, 1) := by decide +kernel
theorem dX12_read_167 : decode cX12_read 167 = .ok (.getfield 182, 3) := by decide +kernel
theorem dX12_read_170 : decode cX12_read 170 = .ok (.goto 4, 3) := by decide +kernel
theorem dX12_read_173 : decode cX12_read 173 = .ok (.iconst (-1), 1) := by decide +kernel
theorem dX12_read_174 : decode cX12_read 174 = .ok (.putfield 111, 3) := by decide +kernel
theorem dX12_read_177 : decode cX12_read 177 = .ok (.aload_n 0, 1) := by decide +kernel
theorem dX12_read_178 : decode cX12_read 178 = .ok (.getfield 161, 3) := by decide +kernel
theorem dX12_read_181 : decode cX12_read 181 = .ok (.ifCond .le 8, 3) := by decide +kernel
theorem dX12_read_184 : decode cX12_read 184 = .ok (.aload_n 0, 1) := by decide +kernel
theorem dX12_read_185 : decode cX12_read 185 = .ok (.getfield 161, 3) := by decide +kernel
theorem dX12_read_188 : decode cX12_read 188 = .ok (.ireturn, 1) := by decide +kernel
theorem dX12_read_189 : decode cX12_read 189 = .ok (.aload_n 0, 1) := by decide +kernel
theorem dX12_read_190 : decode cX12_read 190 = .ok (.getfield 176, 3) := by decide +kernel
theorem dX12_read_193 : decode cX12_read 193 = .ok (.ifCond .le 8, 3) := by decide +kernel
theorem dX12_read_196 : decode cX12_read 196 = .ok (.aload_n 0, 1) := by decide +kernel
theorem dX12_read_197 : decode cX12_read 197 = .ok (.getfield 176, 3) := by decide +kernel
theorem dX12_read_200 : decode cX12_read 200 = .ok (.ireturn, 1) := by decide +kernel
theorem dX12_read_201 : decode cX12_read 201 = .ok (.aload_n 0, 1) := by decide +kernel
theorem dX12_read_202 : decode cX12_read 202 = .ok (.aload_n 0, 1) := by decide +kernel
theorem dX12_read_203 : decode cX12_read 203 = .ok (.getfield 200, 3) := by decide +kernel
theorem dX12_read_206 : decode cX12_read 206 = .ok (.putfield 197, 3) := by decide +kernel
theorem dX12_read_209 : decode cX12_read 209 = .ok (.aload_n 0, 1) := by decide +kernel
theorem dX12_read_210 : decode cX12_read 210 = .ok (.invokevirtual 118, 3) := by decide +kernel
theorem dX12_read_213 : decode cX12_read 213 = .ok (.aload_n 0, 1) := by decide +kernel
theorem dX12_read_214 : decode cX12_read 214 = .ok (.invokevirtual 121, 3) := by decide +kernel
theorem dX12_read_217 : decode cX12_read 217 = .ok (.aload_n 0, 1) := by decide +kernel
theorem dX12_read_218 : decode cX12_read 218 = .ok (.iconst 0, 1) := by decide +kernel
theorem dX12_read_219 : decode cX12_read 219 = .ok (.putfield 209, 3) := by decide +kernel
theorem dX12_read_222 : decode cX12_read 222 = .ok (.iconst 0, 1) := by decide +kernel
theorem dX12_read_223 : decode cX12_read 223 = .ok (.istore_n 1, 1) := by decide +kernel
theorem dX12_read_224 : decode cX12_read 224 = .ok (.iload_n 1, 1) := by decide +kernel
theorem dX12_read_225 : decode cX12_read 225 = .ok (.iconst 3, 1) := by decide +kernel
theorem dX12_read_226 : decode cX12_read 226 = .ok (.if_icmp .ge 16, 3) := by decide +kernel
theorem dX12_read_229 : decode cX12_read 229 = .ok (.aload_n 0, 1) := by decide +kernel
theorem dX12_read_230 : decode cX12_read 230 = .ok (.getfield 100, 3) := by decide +kernel
theorem dX12_read_233 : decode cX12_read 233 = .ok (.iload_n 1, 1) := by decide +kernel
theorem dX12_read_234 : decode cX12_read 234 = .ok (.iconst 0, 1) := by decide +kernel
theorem dX12_read_235 : decode cX12_read 235 = .ok (.bastore, 1) := by decide +kernel
theorem dX12_read_236 : decode cX12_read 236 = .ok (.iinc 1 1, 3) := by decide +kernel
theorem dX12_read_239 : decode cX12_read 239 = .ok (.goto (-15), 3) := by decide +kernel
theorem dX12_read_242 : decode cX12_read 242 = .ok (.iconst 0, 1) := by decide +kernel
theorem dX12_read_243 : decode cX12_read 243 = .ok (.ireturn, 1) := by decide +kernel
theorem dX12_place_0 : decode cX12_place 0 = .ok (.aload_n 0, 1) := by decide +kernel
theorem dX12_place_1 : decode cX12_place 1 = .ok (.getfield 37, 3) := by decide +kernel
theorem dX12_place_4 : decode cX12_place 4 = .ok (.ireturn, 1) := by decide +kernel
theorem dX12_cause_0 : decode cX12_cause 0 = .ok (.aload_n 0, 1) := by decide +kernel
theorem dX12_cause_1 : decode cX12_cause 1 = .ok (.getfield 111, 3) := by decide +kernel
theorem dX12_cause_4 : decode cX12_cause 4 = .ok (.ireturn, 1) := by decide +kernel
set_option maxRecDepth 20000 in
theorem ggX12_toldInt_X12_goesOn : GoodIn wsX12_toldInt wsX12_goesOn := goodIn_r _ [5, 6, 7, 8, 9, 4, 10, 11, 12, 13, 14, 15, 37, 38, 39, 40, 41, 42, 43, 44, 45, 46, 47, 48, 49, 50, 51, 52, 53, 54, 55, 56, 57, 58, 59, 60, 61, 62, 63, 64, 65, 66, 67, 68, 69, 70, 71, 72, 73, 74, 75, 76, 77, 78, 79, 80, 81, 82, 83, 84, 85, 86, 87, 88, 89, 90, 91] (by decide +kernel) (by decide +kernel)
set_option maxRecDepth 20000 in
theorem gX12_toldInt_X12_goesOn : GoodIn wsX12_toldInt (wsV RX12 191 RX12 yX12_goesOn wsX12_goesOn) := goodIn_app (goodIn_of _ (by decide +kernel)) ggX12_toldInt_X12_goesOn
set_option maxRecDepth 20000 in
theorem ggX12_toldInt_X12_bounded : GoodIn wsX12_toldInt wsX12_bounded := goodIn_r _ [19, 11, 20, 6, 21, 22, 23, 4, 24, 25, 7, 8, 9, 10, 12, 13, 14, 15, 26, 27, 28, 29, 30, 31, 32, 1, 2, 3, 5, 37, 38, 39, 40, 41, 42, 43, 44, 45, 46, 47, 48, 49, 50, 51, 52, 53, 54, 55, 56, 57, 58, 59, 60, 61, 62, 63, 64, 65, 66, 67, 68, 69, 70, 71, 72, 73, 74, 75, 76, 77, 78, 79, 80, 81, 82, 83, 84, 85, 86, 87, 88, 89, 90, 91] (by decide +kernel) (by decide +kernel)
set_option maxRecDepth 20000 in
theorem gX12_toldInt_X12_bounded : GoodIn wsX12_toldInt (wsV RX12 212 RX12 yX12_bounded wsX12_bounded) := goodIn_app (goodIn_of _ (by decide +kernel)) ggX12_toldInt_X12_bounded
set_option maxRecDepth 20000 in
theorem ggX12_toldInt_X12_must : GoodIn wsX12_toldInt wsX12_must := goodIn_r _ [36, 21, 22, 23, 4, 24, 11, 25, 6, 1, 2, 3, 5, 7, 8, 9, 10, 12, 13, 14, 15, 37, 38, 39, 40, 41, 42, 43, 44, 45, 46, 47, 48, 49, 50, 51, 52, 53, 54, 55, 56, 57, 58, 59, 60, 61, 62, 63, 64, 65, 66, 67, 68, 69, 70, 71, 72, 73, 74, 75, 76, 77, 78, 79, 80, 81, 82, 83, 84, 85, 86, 87, 88, 89, 90, 91] (by decide +kernel) (by decide +kernel)
set_option maxRecDepth 20000 in
theorem gX12_toldInt_X12_must : GoodIn wsX12_toldInt (wsV RX12 216 RX12 yX12_must wsX12_must) := goodIn_app (goodIn_of _ (by decide +kernel)) ggX12_toldInt_X12_must
theorem dX12_toldInt_0 : decode cX12_toldInt 0 = .ok (.aload_n 0, 1) := by decide +kernel
theorem dX12_toldInt_1 : decode cX12_toldInt 1 = .ok (.invokevirtual 191, 3) := by decide +kernel
theorem dX12_toldInt_4 : decode cX12_toldInt 4 = .ok (.aload_n 0, 1) := by decide +kernel
theorem dX12_toldInt_5 : decode cX12_toldInt 5 = .ok (.iload_n 1, 1) := by decide +kernel
theorem dX12_toldInt_6 : decode cX12_toldInt 6 = .ok (.iload_n 2, 1) := by decide +kernel
theorem dX12_toldInt_7 : decode cX12_toldInt 7 = .ok (.invokevirtual 212, 3) := by decide +kernel
theorem dX12_toldInt_10 : decode cX12_toldInt 10 = .ok (.istore_n 3, 1) := by decide +kernel
theorem dX12_toldInt_11 : decode cX12_toldInt 11 = .ok (.aload_n 0, 1) := by decide +kernel
theorem dX12_toldInt_12 : decode cX12_toldInt 12 = .ok (.iconst 4, 1) := by decide +kernel
theorem dX12_toldInt_13 : decode cX12_toldInt 13 = .ok (.invokevirtual 216, 3) := by decide +kernel
theorem dX12_toldInt_16 : decode cX12_toldInt 16 = .ok (.iload_n 3, 1) := by decide +kernel
theorem dX12_toldInt_17 : decode cX12_toldInt 17 = .ok (.ireturn, 1) := by decide +kernel
set_option maxRecDepth 20000 in
theorem ggX12_toldWord_X12_goesOn : GoodIn wsX12_toldWord wsX12_goesOn := goodIn_r _ [8, 3, 9, 10, 11, 7, 12, 1, 13, 14, 15, 16, 25, 26, 27, 28, 29, 30, 31, 32, 33, 34, 35, 36, 37, 38, 39, 40, 41, 42, 43, 44, 45, 46, 47, 48, 49, 50, 51, 52, 53, 54, 55, 56, 57, 58, 59, 60, 61, 62, 63, 64, 65, 66, 67, 68, 69, 70, 71, 72, 73, 74, 75, 76, 77, 78, 79] (by decide +kernel) (by decide +kernel)
set_option maxRecDepth 20000 in
theorem gX12_toldWord_X12_goesOn : GoodIn wsX12_toldWord (wsV RX12 191 RX12 yX12_goesOn wsX12_goesOn) := goodIn_app (goodIn_of _ (by decide +kernel)) ggX12_toldWord_X12_goesOn
set_option maxRecDepth 20000 in
theorem ggX12_toldWord_X12_fail : GoodIn wsX12_toldWord wsX12_fail := goodIn_r _ [12, 1, 13, 3, 14, 15, 16, 25, 26, 27, 28, 29, 30, 31, 32, 33, 34, 35, 36, 37, 38, 39, 40, 41, 42, 43, 44, 45, 46, 47, 48, 49, 50, 51, 52, 53, 54, 55, 56, 57, 58, 59, 60, 61, 62, 63, 64, 65, 66, 67, 68, 69, 70, 71, 72, 73, 74, 75, 76, 77, 78, 79] (by decide +kernel) (by decide +kernel)
set_option maxRecDepth 20000 in
theorem gX12_toldWord_X12_fail : GoodIn wsX12_toldWord (wsV RX12 185 RX12 yX12_fail wsX12_fail) := goodIn_app (goodIn_of _ (by decide +kernel)) ggX12_toldWord_X12_fail
set_option maxRecDepth 20000 in
theorem ggX12_toldWord_X12_must : GoodIn wsX12_toldWord wsX12_must := goodIn_r _ [20, 21, 22, 23, 7, 24, 1, 2, 3, 4, 5, 6, 8, 9, 10, 11, 12, 13, 14, 15, 16, 25, 26, 27, 28, 29, 30, 31, 32, 33, 34, 35, 36, 37, 38, 39, 40, 41, 42, 43, 44, 45, 46, 47, 48, 49, 50, 51, 52, 53, 54, 55, 56, 57, 58, 59, 60, 61, 62, 63, 64, 65, 66, 67, 68, 69, 70, 71, 72, 73, 74, 75, 76, 77, 78, 79] (by decide +kernel) (by decide +kernel)
set_option maxRecDepth 20000 in
theorem gX12_toldWord_X12_must : GoodIn wsX12_toldWord (wsV RX12 216 RX12 yX12_must wsX12_must) := goodIn_app (goodIn_of _ (by decide +kernel)) ggX12_toldWord_X12_must
theorem dX12_toldWord_0 : decode cX12_toldWord 0 = .ok (.aload_n 0, 1) := by decide +kernel
theorem dX12_toldWord_1 : decode cX12_toldWord 1 = .ok (.invokevirtual 191, 3) := by decide +kernel
theorem dX12_toldWord_4 : decode cX12_toldWord 4 = .ok (.aload_n 0, 1) := by decide +kernel
theorem dX12_toldWord_5 : decode cX12_toldWord 5 = .ok (.getfield 161, 3) := by decide +kernel
theorem dX12_toldWord_8 : decode cX12_toldWord 8 = .ok (.ifCond .le 7, 3) := by decide +kernel
theorem dX12_toldWord_11 : decode cX12_toldWord 11 = .ok (.iconst (-1), 1) := by decide +kernel
theorem dX12_toldWord_12 : decode cX12_toldWord 12 = .ok (.goto 14, 3) := by decide +kernel
theorem dX12_toldWord_15 : decode cX12_toldWord 15 = .ok (.aload_n 0, 1) := by decide +kernel
theorem dX12_toldWord_16 : decode cX12_toldWord 16 = .ok (.getfield 20, 3) := by decide +kernel
theorem dX12_toldWord_19 : decode cX12_toldWord 19 = .ok (.aload_n 0, 1) := by decide +kernel
theorem dX12_toldWord_20 : decode cX12_toldWord 20 = .ok (.getfield 164, 3) := by decide +kernel
theorem dX12_toldWord_23 : decode cX12_toldWord 23 = .ok (.iaload, 1) := by decide +kernel
theorem dX12_toldWord_24 : decode cX12_toldWord 24 = .ok (.iload_n 1, 1) := by decide +kernel
theorem dX12_toldWord_25 : decode cX12_toldWord 25 = .ok (.isub, 1) := by decide +kernel
theorem dX12_toldWord_26 : decode cX12_toldWord 26 = .ok (.istore_n 3, 1) := by decide +kernel
theorem dX12_toldWord_27 : decode cX12_toldWord 27 = .ok (.iload_n 3, 1) := by decide +kernel
theorem dX12_toldWord_28 : decode cX12_toldWord 28 = .ok (.ifCond .lt 8, 3) := by decide +kernel
theorem dX12_toldWord_31 : decode cX12_toldWord 31 = .ok (.iload_n 3, 1) := by decide +kernel
theorem dX12_toldWord_32 : decode cX12_toldWord 32 = .ok (.iload_n 2, 1) := by decide +kernel
theorem dX12_toldWord_33 : decode cX12_toldWord 33 = .ok (.if_icmp .lt 8, 3) := by decide +kernel
theorem dX12_toldWord_36 : decode cX12_toldWord 36 = .ok (.aload_n 0, 1) := by decide +kernel
theorem dX12_toldWord_37 : decode cX12_toldWord 37 = .ok (.iconst 1, 1) := by decide +kernel
theorem dX12_toldWord_38 : decode cX12_toldWord 38 = .ok (.invokevirtual 185, 3) := by decide +kernel
theorem dX12_toldWord_41 : decode cX12_toldWord 41 = .ok (.aload_n 0, 1) := by decide +kernel
theorem dX12_toldWord_42 : decode cX12_toldWord 42 = .ok (.getfield 161, 3) := by decide +kernel
theorem dX12_toldWord_45 : decode cX12_toldWord 45 = .ok (.ifCond .ne 7, 3) := by decide +kernel
theorem dX12_toldWord_48 : decode cX12_toldWord 48 = .ok (.aload_n 0, 1) := by decide +kernel
theorem dX12_toldWord_49 : decode cX12_toldWord 49 = .ok (.invokevirtual 191, 3) := by decide +kernel
theorem dX12_toldWord_52 : decode cX12_toldWord 52 = .ok (.aload_n 0, 1) := by decide +kernel
theorem dX12_toldWord_53 : decode cX12_toldWord 53 = .ok (.iconst 4, 1) := by decide +kernel
theorem dX12_toldWord_54 : decode cX12_toldWord 54 = .ok (.invokevirtual 216, 3) := by decide +kernel
theorem dX12_toldWord_57 : decode cX12_toldWord 57 = .ok (.iload_n 3, 1) := by decide +kernel
theorem dX12_toldWord_58 : decode cX12_toldWord 58 = .ok (.ireturn, 1) := by decide +kernel
set_option maxRecDepth 20000 in
theorem ggX12_tellOne_X12_goesOn : GoodIn wsX12_tellOne wsX12_goesOn := goodIn_r _ [14, 2, 15, 16, 17, 13, 18, 3, 19, 20, 21, 22, 75, 76, 77, 78, 79, 80, 81, 82, 83, 84, 85, 86, 87, 88, 89, 90, 91, 92, 93, 94, 95, 96, 97, 98, 99, 100, 101, 102, 103, 104, 105, 106, 107, 108, 109, 110, 111, 112, 113, 114, 115, 116, 117, 118, 119, 120, 121, 122, 123, 124, 125, 126, 127, 128, 129] (by decide +kernel) (by decide +kernel)
set_option maxRecDepth 20000 in
theorem gX12_tellOne_X12_goesOn : GoodIn wsX12_tellOne (wsV RX12 191 RX12 yX12_goesOn wsX12_goesOn) := goodIn_app (goodIn_of _ (by decide +kernel)) ggX12_tellOne_X12_goesOn
set_option maxRecDepth 20000 in
theorem ggX12_tellOne_X12_tellSeries : GoodIn wsX12_tellOne wsX12_tellSeries := goodIn_r _ [26, 21, 27, 5, 3, 28, 29, 30, 31, 32, 13, 33, 34, 35, 36, 37, 1, 2, 15, 16, 17, 18, 19, 20, 22, 10, 11, 12, 14, 38, 39, 40, 41, 42, 43, 44, 45, 46, 47, 48, 49, 50, 51, 52, 53, 54, 55, 56, 57, 75, 76, 77, 78, 79, 80, 81, 82, 83, 84, 85, 86, 87, 88, 89, 90, 91, 92, 93, 94, 95, 96, 97, 98, 99, 100, 101, 102, 103, 104, 105, 106, 107, 108, 109, 110, 111, 112, 113, 114, 115, 116, 117, 118, 119, 120, 121, 122, 123, 124, 125, 126, 127, 128, 129] (by decide +kernel) (by decide +kernel)
set_option maxRecDepth 20000 in
theorem gX12_tellOne_X12_tellSeries : GoodIn wsX12_tellOne (wsV RX12 219 RX12 yX12_tellSeries wsX12_tellSeries) := goodIn_app (goodIn_of _ (by decide +kernel)) ggX12_tellOne_X12_tellSeries
set_option maxRecDepth 20000 in
theorem ggX12_tellOne_X12_fail : GoodIn wsX12_tellOne wsX12_fail := goodIn_r _ [18, 3, 19, 2, 20, 21, 22, 75, 76, 77, 78, 79, 80, 81, 82, 83, 84, 85, 86, 87, 88, 89, 90, 91, 92, 93, 94, 95, 96, 97, 98, 99, 100, 101, 102, 103, 104, 105, 106, 107, 108, 109, 110, 111, 112, 113, 114, 115, 116, 117, 118, 119, 120, 121, 122, 123, 124, 125, 126, 127, 128, 129] (by decide +kernel) (by decide +kernel)
set_option maxRecDepth 20000 in
theorem gX12_tellOne_X12_fail : GoodIn wsX12_tellOne (wsV RX12 185 RX12 yX12_fail wsX12_fail) := goodIn_app (goodIn_of _ (by decide +kernel)) ggX12_tellOne_X12_fail
set_option maxRecDepth 20000 in
theorem ggX12_tellOne_X12_tellQuery : GoodIn wsX12_tellOne wsX12_tellQuery := goodIn_r _ [61, 21, 5, 4, 2, 62, 3, 63, 64, 65, 66, 54, 55, 56, 13, 57, 34, 35, 36, 37, 1, 10, 11, 12, 14, 15, 16, 17, 18, 19, 20, 22, 47, 48, 49, 50, 51, 52, 53, 30, 31, 32, 33, 38, 39, 40, 41, 42, 43, 44, 45, 46, 75, 76, 77, 78, 79, 80, 81, 82, 83, 84, 85, 86, 87, 88, 89, 90, 91, 92, 93, 94, 95, 96, 97, 98, 99, 100, 101, 102, 103, 104, 105, 106, 107, 108, 109, 110, 111, 112, 113, 114, 115, 116, 117, 118, 119, 120, 121, 122, 123, 124, 125, 126, 127, 128, 129] (by decide +kernel) (by decide +kernel)
set_option maxRecDepth 20000 in
theorem gX12_tellOne_X12_tellQuery : GoodIn wsX12_tellOne (wsV RX12 222 RX12 yX12_tellQuery wsX12_tellQuery) := goodIn_app (goodIn_of _ (by decide +kernel)) ggX12_tellOne_X12_tellQuery
set_option maxRecDepth 20000 in
theorem ggX12_tellOne_X12_toldInt : GoodIn wsX12_tellOne wsX12_toldInt := goodIn_r _ [70, 10, 11, 12, 13, 14, 2, 15, 16, 17, 18, 3, 19, 20, 21, 22, 42, 43, 44, 45, 46, 34, 35, 36, 37, 1, 47, 48, 49, 50, 51, 52, 53, 54, 55, 56, 57, 75, 76, 77, 78, 79, 80, 81, 82, 83, 84, 85, 86, 87, 88, 89, 90, 91, 92, 93, 94, 95, 96, 97, 98, 99, 100, 101, 102, 103, 104, 105, 106, 107, 108, 109, 110, 111, 112, 113, 114, 115, 116, 117, 118, 119, 120, 121, 122, 123, 124, 125, 126, 127, 128, 129] (by decide +kernel) (by decide +kernel)
set_option maxRecDepth 20000 in
theorem gX12_tellOne_X12_toldInt : GoodIn wsX12_tellOne (wsV RX12 225 RX12 yX12_toldInt wsX12_toldInt) := goodIn_app (goodIn_of _ (by decide +kernel)) ggX12_tellOne_X12_toldInt
set_option maxRecDepth 20000 in
theorem ggX12_tellOne_X12_toldWord : GoodIn wsX12_tellOne wsX12_toldWord := goodIn_r _ [74, 3, 1, 2, 10, 11, 12, 13, 14, 15, 16, 17, 18, 19, 20, 21, 22, 54, 55, 56, 57, 34, 35, 36, 37, 75, 76, 77, 78, 79, 80, 81, 82, 83, 84, 85, 86, 87, 88, 89, 90, 91, 92, 93, 94, 95, 96, 97, 98, 99, 100, 101, 102, 103, 104, 105, 106, 107, 108, 109, 110, 111, 112, 113, 114, 115, 116, 117, 118, 119, 120, 121, 122, 123, 124, 125, 126, 127, 128, 129] (by decide +kernel) (by decide +kernel)
set_option maxRecDepth 20000 in
theorem gX12_tellOne_X12_toldWord : GoodIn wsX12_tellOne (wsV RX12 228 RX12 yX12_toldWord wsX12_toldWord) := goodIn_app (goodIn_of _ (by decide +kernel)) ggX12_tellOne_X12_toldWord
theorem dX12_tellOne_0 : decode cX12_tellOne 0 = .ok (.aload_n 0, 1) := by decide +kernel
theorem dX12_tellOne_1 : decode cX12_tellOne 1 = .ok (.getfield 20, 3) := by decide +kernel
theorem dX12_tellOne_4 : decode cX12_tellOne 4 = .ok (.aload_n 0, 1) := by decide +kernel
theorem dX12_tellOne_5 : decode cX12_tellOne 5 = .ok (.getfield 164, 3) := by decide +kernel
theorem dX12_tellOne_8 : decode cX12_tellOne 8 = .ok (.iaload, 1) := by decide +kernel
theorem dX12_tellOne_9 : decode cX12_tellOne 9 = .ok (.tableswitch 176 20 25 #[39, 57, 100, 119, 138, 157], 39) := by decide +kernel
theorem dX12_tellOne_48 : decode cX12_tellOne 48 = .ok (.aload_n 0, 1) := by decide +kernel
theorem dX12_tellOne_49 : decode cX12_tellOne 49 = .ok (.invokevirtual 191, 3) := by decide +kernel
theorem dX12_tellOne_52 : decode cX12_tellOne 52 = .ok (.aload_n 0, 1) := by decide +kernel
theorem dX12_tellOne_53 : decode cX12_tellOne 53 = .ok (.getfield 161, 3) := by decide +kernel
theorem dX12_tellOne_56 : decode cX12_tellOne 56 = .ok (.ifCond .ne 134, 3) := by decide +kernel
theorem dX12_tellOne_59 : decode cX12_tellOne 59 = .ok (.aload_n 0, 1) := by decide +kernel
theorem dX12_tellOne_60 : decode cX12_tellOne 60 = .ok (.invokevirtual 219, 3) := by decide +kernel
theorem dX12_tellOne_63 : decode cX12_tellOne 63 = .ok (.goto 127, 3) := by decide +kernel
theorem dX12_tellOne_66 : decode cX12_tellOne 66 = .ok (.aload_n 0, 1) := by decide +kernel
theorem dX12_tellOne_67 : decode cX12_tellOne 67 = .ok (.getfield 49, 3) := by decide +kernel
theorem dX12_tellOne_70 : decode cX12_tellOne 70 = .ok (.aload_n 0, 1) := by decide +kernel
theorem dX12_tellOne_71 : decode cX12_tellOne 71 = .ok (.getfield 200, 3) := by decide +kernel
theorem dX12_tellOne_74 : decode cX12_tellOne 74 = .ok (.iaload, 1) := by decide +kernel
theorem dX12_tellOne_75 : decode cX12_tellOne 75 = .ok (.iconst 5, 1) := by decide +kernel
theorem dX12_tellOne_76 : decode cX12_tellOne 76 = .ok (.if_icmp .ne 8, 3) := by decide +kernel
theorem dX12_tellOne_79 : decode cX12_tellOne 79 = .ok (.aload_n 0, 1) := by decide +kernel
theorem dX12_tellOne_80 : decode cX12_tellOne 80 = .ok (.iconst 2, 1) := by decide +kernel
theorem dX12_tellOne_81 : decode cX12_tellOne 81 = .ok (.invokevirtual 185, 3) := by decide +kernel
theorem dX12_tellOne_84 : decode cX12_tellOne 84 = .ok (.aload_n 0, 1) := by decide +kernel
theorem dX12_tellOne_85 : decode cX12_tellOne 85 = .ok (.getfield 161, 3) := by decide +kernel
theorem dX12_tellOne_88 : decode cX12_tellOne 88 = .ok (.ifCond .ne 7, 3) := by decide +kernel
theorem dX12_tellOne_91 : decode cX12_tellOne 91 = .ok (.aload_n 0, 1) := by decide +kernel
theorem dX12_tellOne_92 : decode cX12_tellOne 92 = .ok (.invokevirtual 191, 3) := by decide +kernel
theorem dX12_tellOne_95 : decode cX12_tellOne 95 = .ok (.aload_n 0, 1) := by decide +kernel
theorem dX12_tellOne_96 : decode cX12_tellOne 96 = .ok (.getfield 161, 3) := by decide +kernel
theorem dX12_tellOne_99 : decode cX12_tellOne 99 = .ok (.ifCond .ne 91, 3) := by decide +kernel
theorem dX12_tellOne_102 : decode cX12_tellOne 102 = .ok (.aload_n 0, 1) := by decide +kernel
theorem dX12_tellOne_103 : decode cX12_tellOne 103 = .ok (.invokevirtual 222, 3) := by decide +kernel
theorem dX12_tellOne_106 : decode cX12_tellOne 106 = .ok (.goto 84, 3) := by decide +kernel
theorem dX12_tellOne_109 : decode cX12_tellOne 109 = .ok (.aload_n 0, 1) := by decide +kernel
theorem dX12_tellOne_110 : decode cX12_tellOne 110 = .ok (.getfield 58, 3) := by decide +kernel
theorem dX12_tellOne_113 : decode cX12_tellOne 113 = .ok (.aload_n 0, 1) := by decide +kernel
theorem dX12_tellOne_114 : decode cX12_tellOne 114 = .ok (.getfield 200, 3) := by decide +kernel
theorem dX12_tellOne_117 : decode cX12_tellOne 117 = .ok (.aload_n 0, 1) := by decide +kernel
theorem dX12_tellOne_118 : decode cX12_tellOne 118 = .ok (.iconst 0, 1) := by decide +kernel
theorem dX12_tellOne_119 : decode cX12_tellOne 119 = .ok (.bipush 15, 2) := by decide +kernel
theorem dX12_tellOne_121 : decode cX12_tellOne 121 = .ok (.invokevirtual 225, 3) := by decide +kernel
theorem dX12_tellOne_124 : decode cX12_tellOne 124 = .ok (.iastore, 1) := by decide +kernel
theorem dX12_tellOne_125 : decode cX12_tellOne 125 = .ok (.goto 65, 3) := by decide +kernel
theorem dX12_tellOne_128 : decode cX12_tellOne 128 = .ok (.aload_n 0, 1) := by decide +kernel
theorem dX12_tellOne_129 : decode cX12_tellOne 129 = .ok (.getfield 61, 3) := by decide +kernel
theorem dX12_tellOne_132 : decode cX12_tellOne 132 = .ok (.aload_n 0, 1) := by decide +kernel
theorem dX12_tellOne_133 : decode cX12_tellOne 133 = .ok (.getfield 200, 3) := by decide +kernel
theorem dX12_tellOne_136 : decode cX12_tellOne 136 = .ok (.aload_n 0, 1) := by decide +kernel
theorem dX12_tellOne_137 : decode cX12_tellOne 137 = .ok (.bipush 27, 2) := by decide +kernel
theorem dX12_tellOne_139 : decode cX12_tellOne 139 = .ok (.iconst 4, 1) := by decide +kernel
theorem dX12_tellOne_140 : decode cX12_tellOne 140 = .ok (.invokevirtual 228, 3) := by decide +kernel
theorem dX12_tellOne_143 : decode cX12_tellOne 143 = .ok (.iastore, 1) := by decide +kernel
theorem dX12_tellOne_144 : decode cX12_tellOne 144 = .ok (.goto 46, 3) := by decide +kernel
theorem dX12_tellOne_147 : decode cX12_tellOne 147 = .ok (.aload_n 0, 1) := by decide +kernel
theorem dX12_tellOne_148 : decode cX12_tellOne 148 = .ok (.getfield 64, 3) := by decide +kernel
theorem dX12_tellOne_151 : decode cX12_tellOne 151 = .ok (.aload_n 0, 1) := by decide +kernel
theorem dX12_tellOne_152 : decode cX12_tellOne 152 = .ok (.getfield 200, 3) := by decide +kernel
theorem dX12_tellOne_155 : decode cX12_tellOne 155 = .ok (.aload_n 0, 1) := by decide +kernel
theorem dX12_tellOne_156 : decode cX12_tellOne 156 = .ok (.bipush 31, 2) := by decide +kernel
theorem dX12_tellOne_158 : decode cX12_tellOne 158 = .ok (.iconst 2, 1) := by decide +kernel
theorem dX12_tellOne_159 : decode cX12_tellOne 159 = .ok (.invokevirtual 228, 3) := by decide +kernel
theorem dX12_tellOne_162 : decode cX12_tellOne 162 = .ok (.iastore, 1) := by decide +kernel
theorem dX12_tellOne_163 : decode cX12_tellOne 163 = .ok (.goto 27, 3) := by decide +kernel
theorem dX12_tellOne_166 : decode cX12_tellOne 166 = .ok (.aload_n 0, 1) := by decide +kernel
theorem dX12_tellOne_167 : decode cX12_tellOne 167 = .ok (.getfield 67, 3) := by decide +kernel
theorem dX12_tellOne_170 : decode cX12_tellOne 170 = .ok (.aload_n 0, 1) := by decide +kernel
theorem dX12_tellOne_171 : decode cX12_tellOne 171 = .ok (.getfield 200, 3) := by decide +kernel
theorem dX12_tellOne_174 : decode cX12_tellOne 174 = .ok (.aload_n 0, 1) := by decide +kernel
theorem dX12_tellOne_175 : decode cX12_tellOne 175 = .ok (.iconst 1, 1) := by decide +kernel
theorem dX12_tellOne_176 : decode cX12_tellOne 176 = .ok (.bipush 99, 2) := by decide +kernel
theorem dX12_tellOne_178 : decode cX12_tellOne 178 = .ok (.invokevirtual 225, 3) := by decide +kernel
theorem dX12_tellOne_181 : decode cX12_tellOne 181 = .ok (.iastore, 1) := by decide +kernel
theorem dX12_tellOne_182 : decode cX12_tellOne 182 = .ok (.goto 8, 3) := by decide +kernel
theorem dX12_tellOne_185 : decode cX12_tellOne 185 = .ok (.aload_n 0, 1) := by decide +kernel
theorem dX12_tellOne_186 : decode cX12_tellOne 186 = .ok (.iconst 1, 1) := by decide +kernel
theorem dX12_tellOne_187 : decode cX12_tellOne 187 = .ok (.invokevirtual 185, 3) := by decide +kernel
theorem dX12_tellOne_190 : decode cX12_tellOne 190 = .ok (.return_, 1) := by decide +kernel
set_option maxRecDepth 20000 in
theorem ggX12_bounded_X12_is : GoodIn wsX12_bounded wsX12_is := goodIn_r _ [8, 1, 9, 3, 29, 30, 31, 32, 33, 34, 35, 36, 37, 38, 39, 40, 41, 42, 43, 44, 45, 46, 47, 48, 49, 50, 51, 52, 53, 54, 55, 56, 57, 58, 59, 60, 61, 62, 63, 64, 65, 66, 67, 68, 69, 70, 71, 72, 73, 74, 75, 76, 77, 78, 79, 80, 81, 82, 83] (by decide +kernel) (by decide +kernel)
set_option maxRecDepth 20000 in
theorem gX12_bounded_X12_is : GoodIn wsX12_bounded (wsV RX12 188 RX12 yX12_is wsX12_is) := goodIn_app (goodIn_of _ (by decide +kernel)) ggX12_bounded_X12_is
set_option maxRecDepth 20000 in
theorem ggX12_bounded_X12_fail : GoodIn wsX12_bounded wsX12_fail := goodIn_r _ [13, 1, 14, 3, 15, 16, 17, 29, 30, 31, 32, 33, 34, 35, 36, 37, 38, 39, 40, 41, 42, 43, 44, 45, 46, 47, 48, 49, 50, 51, 52, 53, 54, 55, 56, 57, 58, 59, 60, 61, 62, 63, 64, 65, 66, 67, 68, 69, 70, 71, 72, 73, 74, 75, 76, 77, 78, 79, 80, 81, 82, 83] (by decide +kernel) (by decide +kernel)
set_option maxRecDepth 20000 in
theorem gX12_bounded_X12_fail : GoodIn wsX12_bounded (wsV RX12 185 RX12 yX12_fail wsX12_fail) := goodIn_app (goodIn_of _ (by decide +kernel)) ggX12_bounded_X12_fail
set_option maxRecDepth 20000 in
theorem ggX12_bounded_X12_wrong : GoodIn wsX12_bounded wsX12_wrong := goodIn_r _ [21, 14, 1, 22, 23, 16, 24, 29, 30, 31, 32, 33, 34, 35, 36, 37, 38, 39, 40, 41, 42, 43, 44, 45, 46, 47, 48, 49, 50, 51, 52, 53, 54, 55, 56, 57, 58, 59, 60, 61, 62, 63, 64, 65, 66, 67, 68, 69, 70, 71, 72, 73, 74, 75, 76, 77, 78, 79, 80, 81, 82, 83] (by decide +kernel) (by decide +kernel)
set_option maxRecDepth 20000 in
theorem gX12_bounded_X12_wrong : GoodIn wsX12_bounded (wsV RX12 231 RX12 yX12_wrong wsX12_wrong) := goodIn_app (goodIn_of _ (by decide +kernel)) ggX12_bounded_X12_wrong
set_option maxRecDepth 20000 in
theorem ggX12_bounded_X12_goesOn : GoodIn wsX12_bounded wsX12_goesOn := goodIn_r _ [28, 3, 10, 11, 12, 7, 13, 1, 14, 15, 16, 17, 29, 30, 31, 32, 33, 34, 35, 36, 37, 38, 39, 40, 41, 42, 43, 44, 45, 46, 47, 48, 49, 50, 51, 52, 53, 54, 55, 56, 57, 58, 59, 60, 61, 62, 63, 64, 65, 66, 67, 68, 69, 70, 71, 72, 73, 74, 75, 76, 77, 78, 79, 80, 81, 82, 83] (by decide +kernel) (by decide +kernel)
set_option maxRecDepth 20000 in
theorem gX12_bounded_X12_goesOn : GoodIn wsX12_bounded (wsV RX12 191 RX12 yX12_goesOn wsX12_goesOn) := goodIn_app (goodIn_of _ (by decide +kernel)) ggX12_bounded_X12_goesOn
theorem dX12_bounded_0 : decode cX12_bounded 0 = .ok (.aload_n 0, 1) := by decide +kernel
theorem dX12_bounded_1 : decode cX12_bounded 1 = .ok (.getfield 161, 3) := by decide +kernel
theorem dX12_bounded_4 : decode cX12_bounded 4 = .ok (.ifCond .gt 11, 3) := by decide +kernel
theorem dX12_bounded_7 : decode cX12_bounded 7 = .ok (.aload_n 0, 1) := by decide +kernel
theorem dX12_bounded_8 : decode cX12_bounded 8 = .ok (.iconst 2, 1) := by decide +kernel
theorem dX12_bounded_9 : decode cX12_bounded 9 = .ok (.invokevirtual 188, 3) := by decide +kernel
theorem dX12_bounded_12 : decode cX12_bounded 12 = .ok (.ifCond .ne 10, 3) := by decide +kernel
theorem dX12_bounded_15 : decode cX12_bounded 15 = .ok (.aload_n 0, 1) := by decide +kernel
theorem dX12_bounded_16 : decode cX12_bounded 16 = .ok (.iconst 1, 1) := by decide +kernel
theorem dX12_bounded_17 : decode cX12_bounded 17 = .ok (.invokevirtual 185, 3) := by decide +kernel
theorem dX12_bounded_20 : decode cX12_bounded 20 = .ok (.iload_n 1, 1) := by decide +kernel
theorem dX12_bounded_21 : decode cX12_bounded 21 = .ok (.ireturn, 1) := by decide +kernel
theorem dX12_bounded_22 : decode cX12_bounded 22 = .ok (.aload_n 0, 1) := by decide +kernel
theorem dX12_bounded_23 : decode cX12_bounded 23 = .ok (.getfield 27, 3) := by decide +kernel
theorem dX12_bounded_26 : decode cX12_bounded 26 = .ok (.aload_n 0, 1) := by decide +kernel
theorem dX12_bounded_27 : decode cX12_bounded 27 = .ok (.getfield 164, 3) := by decide +kernel
theorem dX12_bounded_30 : decode cX12_bounded 30 = .ok (.iaload, 1) := by decide +kernel
theorem dX12_bounded_31 : decode cX12_bounded 31 = .ok (.istore_n 3, 1) := by decide +kernel
theorem dX12_bounded_32 : decode cX12_bounded 32 = .ok (.iload_n 3, 1) := by decide +kernel
theorem dX12_bounded_33 : decode cX12_bounded 33 = .ok (.iload_n 1, 1) := by decide +kernel
theorem dX12_bounded_34 : decode cX12_bounded 34 = .ok (.if_icmp .lt 8, 3) := by decide +kernel
theorem dX12_bounded_37 : decode cX12_bounded 37 = .ok (.iload_n 3, 1) := by decide +kernel
theorem dX12_bounded_38 : decode cX12_bounded 38 = .ok (.iload_n 2, 1) := by decide +kernel
theorem dX12_bounded_39 : decode cX12_bounded 39 = .ok (.if_icmp .le 12, 3) := by decide +kernel
theorem dX12_bounded_42 : decode cX12_bounded 42 = .ok (.aload_n 0, 1) := by decide +kernel
theorem dX12_bounded_43 : decode cX12_bounded 43 = .ok (.iconst 5, 1) := by decide +kernel
theorem dX12_bounded_44 : decode cX12_bounded 44 = .ok (.aload_n 0, 1) := by decide +kernel
theorem dX12_bounded_45 : decode cX12_bounded 45 = .ok (.getfield 164, 3) := by decide +kernel
theorem dX12_bounded_48 : decode cX12_bounded 48 = .ok (.invokevirtual 231, 3) := by decide +kernel
theorem dX12_bounded_51 : decode cX12_bounded 51 = .ok (.aload_n 0, 1) := by decide +kernel
theorem dX12_bounded_52 : decode cX12_bounded 52 = .ok (.invokevirtual 191, 3) := by decide +kernel
theorem dX12_bounded_55 : decode cX12_bounded 55 = .ok (.iload_n 3, 1) := by decide +kernel
theorem dX12_bounded_56 : decode cX12_bounded 56 = .ok (.ireturn, 1) := by decide +kernel
set_option maxRecDepth 20000 in
theorem ggX12_isReading_X12_is : GoodIn wsX12_isReading wsX12_is := goodIn_r _ [5, 6, 7, 8, 9, 10, 11, 12, 13, 14, 15, 16, 17, 18, 19, 20, 21, 22, 23, 24, 25, 26, 27, 28, 29, 30, 31, 32, 33, 34, 35, 36, 37, 38, 39, 40, 41, 42, 43, 44, 45, 46, 47, 48, 49, 50, 51, 52, 53, 54, 55, 56, 57, 58, 59, 60, 61, 62, 63] (by decide +kernel) (by decide +kernel)
set_option maxRecDepth 20000 in
theorem gX12_isReading_X12_is : GoodIn wsX12_isReading (wsV RX12 188 RX12 yX12_is wsX12_is) := goodIn_app (goodIn_of _ (by decide +kernel)) ggX12_isReading_X12_is
theorem dX12_isReading_0 : decode cX12_isReading 0 = .ok (.aload_n 0, 1) := by decide +kernel
theorem dX12_isReading_1 : decode cX12_isReading 1 = .ok (.bipush 9, 2) := by decide +kernel
theorem dX12_isReading_3 : decode cX12_isReading 3 = .ok (.invokevirtual 188, 3) := by decide +kernel
theorem dX12_isReading_6 : decode cX12_isReading 6 = .ok (.ifCond .ne 11, 3) := by decide +kernel
theorem dX12_isReading_9 : decode cX12_isReading 9 = .ok (.aload_n 0, 1) := by decide +kernel
theorem dX12_isReading_10 : decode cX12_isReading 10 = .ok (.iconst 2, 1) := by decide +kernel
theorem dX12_isReading_11 : decode cX12_isReading 11 = .ok (.invokevirtual 188, 3) := by decide +kernel
theorem dX12_isReading_14 : decode cX12_isReading 14 = .ok (.ifCond .eq 7, 3) := by decide +kernel
theorem dX12_isReading_17 : decode cX12_isReading 17 = .ok (.iconst 1, 1) := by decide +kernel
theorem dX12_isReading_18 : decode cX12_isReading 18 = .ok (.goto 4, 3) := by decide +kernel
theorem dX12_isReading_21 : decode cX12_isReading 21 = .ok (.iconst 0, 1) := by decide +kernel
theorem dX12_isReading_22 : decode cX12_isReading 22 = .ok (.ireturn, 1) := by decide +kernel
set_option maxRecDepth 20000 in
theorem ggX12_readingTold_X12_is : GoodIn wsX12_readingTold wsX12_is := goodIn_r _ [5, 6, 7, 8, 33, 34, 35, 36, 37, 38, 39, 40, 41, 42, 43, 44, 45, 46, 47, 48, 49, 50, 51, 52, 53, 54, 55, 56, 57, 58, 59, 60, 61, 62, 63, 64, 65, 66, 67, 68, 69, 70, 71, 72, 73, 74, 75, 76, 77, 78, 79, 80, 81, 82, 83, 84, 85, 86, 87] (by decide +kernel) (by decide +kernel)
set_option maxRecDepth 20000 in
theorem gX12_readingTold_X12_is : GoodIn wsX12_readingTold (wsV RX12 188 RX12 yX12_is wsX12_is) := goodIn_app (goodIn_of _ (by decide +kernel)) ggX12_readingTold_X12_is
set_option maxRecDepth 20000 in
theorem ggX12_readingTold_X12_goesOn : GoodIn wsX12_readingTold wsX12_goesOn := goodIn_r _ [12, 8, 13, 14, 15, 4, 16, 6, 17, 18, 19, 20, 33, 34, 35, 36, 37, 38, 39, 40, 41, 42, 43, 44, 45, 46, 47, 48, 49, 50, 51, 52, 53, 54, 55, 56, 57, 58, 59, 60, 61, 62, 63, 64, 65, 66, 67, 68, 69, 70, 71, 72, 73, 74, 75, 76, 77, 78, 79, 80, 81, 82, 83, 84, 85, 86, 87] (by decide +kernel) (by decide +kernel)
set_option maxRecDepth 20000 in
theorem gX12_readingTold_X12_goesOn : GoodIn wsX12_readingTold (wsV RX12 191 RX12 yX12_goesOn wsX12_goesOn) := goodIn_app (goodIn_of _ (by decide +kernel)) ggX12_readingTold_X12_goesOn
set_option maxRecDepth 20000 in
theorem ggX12_readingTold_X12_bounded : GoodIn wsX12_readingTold wsX12_bounded := goodIn_r _ [24, 6, 25, 8, 1, 2, 3, 4, 5, 7, 13, 14, 15, 16, 17, 18, 19, 20, 26, 27, 28, 29, 30, 31, 32, 9, 10, 11, 12, 33, 34, 35, 36, 37, 38, 39, 40, 41, 42, 43, 44, 45, 46, 47, 48, 49, 50, 51, 52, 53, 54, 55, 56, 57, 58, 59, 60, 61, 62, 63, 64, 65, 66, 67, 68, 69, 70, 71, 72, 73, 74, 75, 76, 77, 78, 79, 80, 81, 82, 83, 84, 85, 86, 87] (by decide +kernel) (by decide +kernel)
set_option maxRecDepth 20000 in
theorem gX12_readingTold_X12_bounded : GoodIn wsX12_readingTold (wsV RX12 212 RX12 yX12_bounded wsX12_bounded) := goodIn_app (goodIn_of _ (by decide +kernel)) ggX12_readingTold_X12_bounded
theorem dX12_readingTold_0 : decode cX12_readingTold 0 = .ok (.aload_n 0, 1) := by decide +kernel
theorem dX12_readingTold_1 : decode cX12_readingTold 1 = .ok (.bipush 9, 2) := by decide +kernel
theorem dX12_readingTold_3 : decode cX12_readingTold 3 = .ok (.invokevirtual 188, 3) := by decide +kernel
theorem dX12_readingTold_6 : decode cX12_readingTold 6 = .ok (.istore_n 1, 1) := by decide +kernel
theorem dX12_readingTold_7 : decode cX12_readingTold 7 = .ok (.iload_n 1, 1) := by decide +kernel
theorem dX12_readingTold_8 : decode cX12_readingTold 8 = .ok (.ifCond .eq 7, 3) := by decide +kernel
theorem dX12_readingTold_11 : decode cX12_readingTold 11 = .ok (.aload_n 0, 1) := by decide +kernel
theorem dX12_readingTold_12 : decode cX12_readingTold 12 = .ok (.invokevirtual 191, 3) := by decide +kernel
theorem dX12_readingTold_15 : decode cX12_readingTold 15 = .ok (.aload_n 0, 1) := by decide +kernel
theorem dX12_readingTold_16 : decode cX12_readingTold 16 = .ok (.iconst 0, 1) := by decide +kernel
theorem dX12_readingTold_17 : decode cX12_readingTold 17 = .ok (.sipush 999, 3) := by decide +kernel
theorem dX12_readingTold_20 : decode cX12_readingTold 20 = .ok (.invokevirtual 212, 3) := by decide +kernel
theorem dX12_readingTold_23 : decode cX12_readingTold 23 = .ok (.istore_n 2, 1) := by decide +kernel
theorem dX12_readingTold_24 : decode cX12_readingTold 24 = .ok (.iload_n 1, 1) := by decide +kernel
theorem dX12_readingTold_25 : decode cX12_readingTold 25 = .ok (.ifCond .eq 8, 3) := by decide +kernel
theorem dX12_readingTold_28 : decode cX12_readingTold 28 = .ok (.iload_n 2, 1) := by decide +kernel
theorem dX12_readingTold_29 : decode cX12_readingTold 29 = .ok (.ineg, 1) := by decide +kernel
theorem dX12_readingTold_30 : decode cX12_readingTold 30 = .ok (.goto 4, 3) := by decide +kernel
theorem dX12_readingTold_33 : decode cX12_readingTold 33 = .ok (.iload_n 2, 1) := by decide +kernel
theorem dX12_readingTold_34 : decode cX12_readingTold 34 = .ok (.ireturn, 1) := by decide +kernel
set_option maxRecDepth 20000 in
theorem ggX12_tellSeries_X12_isReading : GoodIn wsX12_tellSeries wsX12_isReading := goodIn_r _ [11, 12, 13, 14, 10, 15, 4, 16, 17, 49, 50, 51, 52, 53, 54, 55, 56, 57, 58, 59, 60, 61, 62, 63, 64, 65, 66, 67, 68, 69, 70, 71, 72, 73, 74, 75, 76, 77, 78, 79, 80, 81, 82, 83, 84, 85, 86, 87, 88, 89, 90, 91, 92, 93, 94, 95, 96, 97, 98, 99, 100, 101, 102, 103] (by decide +kernel) (by decide +kernel)
set_option maxRecDepth 20000 in
theorem gX12_tellSeries_X12_isReading : GoodIn wsX12_tellSeries (wsV RX12 235 RX12 yX12_isReading wsX12_isReading) := goodIn_app (goodIn_of _ (by decide +kernel)) ggX12_tellSeries_X12_isReading
set_option maxRecDepth 20000 in
theorem ggX12_tellSeries_X12_is : GoodIn wsX12_tellSeries wsX12_is := goodIn_r _ [15, 4, 16, 17, 49, 50, 51, 52, 53, 54, 55, 56, 57, 58, 59, 60, 61, 62, 63, 64, 65, 66, 67, 68, 69, 70, 71, 72, 73, 74, 75, 76, 77, 78, 79, 80, 81, 82, 83, 84, 85, 86, 87, 88, 89, 90, 91, 92, 93, 94, 95, 96, 97, 98, 99, 100, 101, 102, 103] (by decide +kernel) (by decide +kernel)
set_option maxRecDepth 20000 in
theorem gX12_tellSeries_X12_is : GoodIn wsX12_tellSeries (wsV RX12 188 RX12 yX12_is wsX12_is) := goodIn_app (goodIn_of _ (by decide +kernel)) ggX12_tellSeries_X12_is
set_option maxRecDepth 20000 in
theorem ggX12_tellSeries_X12_fail : GoodIn wsX12_tellSeries wsX12_fail := goodIn_r _ [21, 4, 22, 17, 23, 1, 24, 49, 50, 51, 52, 53, 54, 55, 56, 57, 58, 59, 60, 61, 62, 63, 64, 65, 66, 67, 68, 69, 70, 71, 72, 73, 74, 75, 76, 77, 78, 79, 80, 81, 82, 83, 84, 85, 86, 87, 88, 89, 90, 91, 92, 93, 94, 95, 96, 97, 98, 99, 100, 101, 102, 103] (by decide +kernel) (by decide +kernel)
set_option maxRecDepth 20000 in
theorem gX12_tellSeries_X12_fail : GoodIn wsX12_tellSeries (wsV RX12 185 RX12 yX12_fail wsX12_fail) := goodIn_app (goodIn_of _ (by decide +kernel)) ggX12_tellSeries_X12_fail
set_option maxRecDepth 20000 in
theorem ggX12_tellSeries_X12_goesOn : GoodIn wsX12_tellSeries wsX12_goesOn := goodIn_r _ [28, 17, 18, 19, 20, 10, 21, 4, 22, 23, 1, 24, 49, 50, 51, 52, 53, 54, 55, 56, 57, 58, 59, 60, 61, 62, 63, 64, 65, 66, 67, 68, 69, 70, 71, 72, 73, 74, 75, 76, 77, 78, 79, 80, 81, 82, 83, 84, 85, 86, 87, 88, 89, 90, 91, 92, 93, 94, 95, 96, 97, 98, 99, 100, 101, 102, 103] (by decide +kernel) (by decide +kernel)
set_option maxRecDepth 20000 in
theorem gX12_tellSeries_X12_goesOn : GoodIn wsX12_tellSeries (wsV RX12 191 RX12 yX12_goesOn wsX12_goesOn) := goodIn_app (goodIn_of _ (by decide +kernel)) ggX12_tellSeries_X12_goesOn
set_option maxRecDepth 20000 in
theorem ggX12_tellSeries_X12_readingTold : GoodIn wsX12_tellSeries wsX12_readingTold := goodIn_r _ [32, 12, 13, 14, 10, 15, 4, 16, 17, 25, 26, 27, 28, 18, 19, 20, 21, 22, 23, 1, 24, 33, 34, 35, 36, 37, 38, 39, 40, 41, 42, 43, 44, 49, 50, 51, 52, 53, 54, 55, 56, 57, 58, 59, 60, 61, 62, 63, 64, 65, 66, 67, 68, 69, 70, 71, 72, 73, 74, 75, 76, 77, 78, 79, 80, 81, 82, 83, 84, 85, 86, 87, 88, 89, 90, 91, 92, 93, 94, 95, 96, 97, 98, 99, 100, 101, 102, 103] (by decide +kernel) (by decide +kernel)
set_option maxRecDepth 20000 in
theorem gX12_tellSeries_X12_readingTold : GoodIn wsX12_tellSeries (wsV RX12 240 RX12 yX12_readingTold wsX12_readingTold) := goodIn_app (goodIn_of _ (by decide +kernel)) ggX12_tellSeries_X12_readingTold
set_option maxRecDepth 20000 in
theorem ggX12_tellSeries_X12_must : GoodIn wsX12_tellSeries wsX12_must := goodIn_r _ [48, 12, 13, 14, 10, 15, 4, 16, 17, 25, 26, 27, 28, 18, 19, 20, 21, 22, 23, 1, 24, 49, 50, 51, 52, 53, 54, 55, 56, 57, 58, 59, 60, 61, 62, 63, 64, 65, 66, 67, 68, 69, 70, 71, 72, 73, 74, 75, 76, 77, 78, 79, 80, 81, 82, 83, 84, 85, 86, 87, 88, 89, 90, 91, 92, 93, 94, 95, 96, 97, 98, 99, 100, 101, 102, 103] (by decide +kernel) (by decide +kernel)
set_option maxRecDepth 20000 in
theorem gX12_tellSeries_X12_must : GoodIn wsX12_tellSeries (wsV RX12 216 RX12 yX12_must wsX12_must) := goodIn_app (goodIn_of _ (by decide +kernel)) ggX12_tellSeries_X12_must
theorem dX12_tellSeries_0 : decode cX12_tellSeries 0 = .ok (.aload_n 0, 1) := by decide +kernel
theorem dX12_tellSeries_1 : decode cX12_tellSeries 1 = .ok (.iconst 0, 1) := by decide +kernel
theorem dX12_tellSeries_2 : decode cX12_tellSeries 2 = .ok (.putfield 170, 3) := by decide +kernel
theorem dX12_tellSeries_5 : decode cX12_tellSeries 5 = .ok (.aload_n 0, 1) := by decide +kernel
theorem dX12_tellSeries_6 : decode cX12_tellSeries 6 = .ok (.invokevirtual 235, 3) := by decide +kernel
theorem dX12_tellSeries_9 : decode cX12_tellSeries 9 = .ok (.ifCond .ne 12, 3) := by decide +kernel
theorem dX12_tellSeries_12 : decode cX12_tellSeries 12 = .ok (.aload_n 0, 1) := by decide +kernel
theorem dX12_tellSeries_13 : decode cX12_tellSeries 13 = .ok (.bipush 26, 2) := by decide +kernel
theorem dX12_tellSeries_15 : decode cX12_tellSeries 15 = .ok (.invokevirtual 188, 3) := by decide +kernel
theorem dX12_tellSeries_18 : decode cX12_tellSeries 18 = .ok (.ifCond .eq 116, 3) := by decide +kernel
theorem dX12_tellSeries_21 : decode cX12_tellSeries 21 = .ok (.aload_n 0, 1) := by decide +kernel
theorem dX12_tellSeries_22 : decode cX12_tellSeries 22 = .ok (.getfield 43, 3) := by decide +kernel
theorem dX12_tellSeries_25 : decode cX12_tellSeries 25 = .ok (.aload_n 0, 1) := by decide +kernel
theorem dX12_tellSeries_26 : decode cX12_tellSeries 26 = .ok (.getfield 200, 3) := by decide +kernel
theorem dX12_tellSeries_29 : decode cX12_tellSeries 29 = .ok (.iaload, 1) := by decide +kernel
theorem dX12_tellSeries_30 : decode cX12_tellSeries 30 = .ok (.sipush 160, 3) := by decide +kernel
theorem dX12_tellSeries_33 : decode cX12_tellSeries 33 = .ok (.if_icmp .ne 8, 3) := by decide +kernel
theorem dX12_tellSeries_36 : decode cX12_tellSeries 36 = .ok (.aload_n 0, 1) := by decide +kernel
theorem dX12_tellSeries_37 : decode cX12_tellSeries 37 = .ok (.iconst 2, 1) := by decide +kernel
theorem dX12_tellSeries_38 : decode cX12_tellSeries 38 = .ok (.invokevirtual 185, 3) := by decide +kernel
theorem dX12_tellSeries_41 : decode cX12_tellSeries 41 = .ok (.aload_n 0, 1) := by decide +kernel
theorem dX12_tellSeries_42 : decode cX12_tellSeries 42 = .ok (.getfield 161, 3) := by decide +kernel
theorem dX12_tellSeries_45 : decode cX12_tellSeries 45 = .ok (.ifCond .le 4, 3) := by decide +kernel
theorem dX12_tellSeries_48 : decode cX12_tellSeries 48 = .ok (.return_, 1) := by decide +kernel
theorem dX12_tellSeries_49 : decode cX12_tellSeries 49 = .ok (.aload_n 0, 1) := by decide +kernel
theorem dX12_tellSeries_50 : decode cX12_tellSeries 50 = .ok (.bipush 26, 2) := by decide +kernel
theorem dX12_tellSeries_52 : decode cX12_tellSeries 52 = .ok (.invokevirtual 188, 3) := by decide +kernel
theorem dX12_tellSeries_55 : decode cX12_tellSeries 55 = .ok (.istore_n 1, 1) := by decide +kernel
theorem dX12_tellSeries_56 : decode cX12_tellSeries 56 = .ok (.iload_n 1, 1) := by decide +kernel
theorem dX12_tellSeries_57 : decode cX12_tellSeries 57 = .ok (.ifCond .eq 7, 3) := by decide +kernel
theorem dX12_tellSeries_60 : decode cX12_tellSeries 60 = .ok (.aload_n 0, 1) := by decide +kernel
theorem dX12_tellSeries_61 : decode cX12_tellSeries 61 = .ok (.invokevirtual 191, 3) := by decide +kernel
theorem dX12_tellSeries_64 : decode cX12_tellSeries 64 = .ok (.aload_n 0, 1) := by decide +kernel
theorem dX12_tellSeries_65 : decode cX12_tellSeries 65 = .ok (.getfield 46, 3) := by decide +kernel
theorem dX12_tellSeries_68 : decode cX12_tellSeries 68 = .ok (.sipush 160, 3) := by decide +kernel
theorem dX12_tellSeries_71 : decode cX12_tellSeries 71 = .ok (.aload_n 0, 1) := by decide +kernel
theorem dX12_tellSeries_72 : decode cX12_tellSeries 72 = .ok (.getfield 200, 3) := by decide +kernel
theorem dX12_tellSeries_75 : decode cX12_tellSeries 75 = .ok (.imul, 1) := by decide +kernel
theorem dX12_tellSeries_76 : decode cX12_tellSeries 76 = .ok (.aload_n 0, 1) := by decide +kernel
theorem dX12_tellSeries_77 : decode cX12_tellSeries 77 = .ok (.getfield 43, 3) := by decide +kernel
theorem dX12_tellSeries_80 : decode cX12_tellSeries 80 = .ok (.aload_n 0, 1) := by decide +kernel
theorem dX12_tellSeries_81 : decode cX12_tellSeries 81 = .ok (.getfield 200, 3) := by decide +kernel
theorem dX12_tellSeries_84 : decode cX12_tellSeries 84 = .ok (.iaload, 1) := by decide +kernel
theorem dX12_tellSeries_85 : decode cX12_tellSeries 85 = .ok (.iadd, 1) := by decide +kernel
theorem dX12_tellSeries_86 : decode cX12_tellSeries 86 = .ok (.iload_n 1, 1) := by decide +kernel
theorem dX12_tellSeries_87 : decode cX12_tellSeries 87 = .ok (.ifCond .eq 8, 3) := by decide +kernel
theorem dX12_tellSeries_90 : decode cX12_tellSeries 90 = .ok (.ldc 239, 2) := by decide +kernel
theorem dX12_tellSeries_92 : decode cX12_tellSeries 92 = .ok (.goto 7, 3) := by decide +kernel
theorem dX12_tellSeries_95 : decode cX12_tellSeries 95 = .ok (.aload_n 0, 1) := by decide +kernel
theorem dX12_tellSeries_96 : decode cX12_tellSeries 96 = .ok (.invokevirtual 240, 3) := by decide +kernel
theorem dX12_tellSeries_99 : decode cX12_tellSeries 99 = .ok (.iastore, 1) := by decide +kernel
theorem dX12_tellSeries_100 : decode cX12_tellSeries 100 = .ok (.aload_n 0, 1) := by decide +kernel
theorem dX12_tellSeries_101 : decode cX12_tellSeries 101 = .ok (.getfield 161, 3) := by decide +kernel
theorem dX12_tellSeries_104 : decode cX12_tellSeries 104 = .ok (.ifCond .le 4, 3) := by decide +kernel
theorem dX12_tellSeries_107 : decode cX12_tellSeries 107 = .ok (.return_, 1) := by decide +kernel
theorem dX12_tellSeries_108 : decode cX12_tellSeries 108 = .ok (.aload_n 0, 1) := by decide +kernel
theorem dX12_tellSeries_109 : decode cX12_tellSeries 109 = .ok (.getfield 43, 3) := by decide +kernel
theorem dX12_tellSeries_112 : decode cX12_tellSeries 112 = .ok (.aload_n 0, 1) := by decide +kernel
theorem dX12_tellSeries_113 : decode cX12_tellSeries 113 = .ok (.getfield 200, 3) := by decide +kernel
theorem dX12_tellSeries_116 : decode cX12_tellSeries 116 = .ok (.dup2, 1) := by decide +kernel
theorem dX12_tellSeries_117 : decode cX12_tellSeries 117 = .ok (.iaload, 1) := by decide +kernel
theorem dX12_tellSeries_118 : decode cX12_tellSeries 118 = .ok (.iconst 1, 1) := by decide +kernel
theorem dX12_tellSeries_119 : decode cX12_tellSeries 119 = .ok (.iadd, 1) := by decide +kernel
theorem dX12_tellSeries_120 : decode cX12_tellSeries 120 = .ok (.iastore, 1) := by decide +kernel
theorem dX12_tellSeries_121 : decode cX12_tellSeries 121 = .ok (.aload_n 0, 1) := by decide +kernel
theorem dX12_tellSeries_122 : decode cX12_tellSeries 122 = .ok (.dup, 1) := by decide +kernel
theorem dX12_tellSeries_123 : decode cX12_tellSeries 123 = .ok (.getfield 170, 3) := by decide +kernel
theorem dX12_tellSeries_126 : decode cX12_tellSeries 126 = .ok (.iconst 1, 1) := by decide +kernel
theorem dX12_tellSeries_127 : decode cX12_tellSeries 127 = .ok (.iadd, 1) := by decide +kernel
theorem dX12_tellSeries_128 : decode cX12_tellSeries 128 = .ok (.putfield 170, 3) := by decide +kernel
theorem dX12_tellSeries_131 : decode cX12_tellSeries 131 = .ok (.goto (-126), 3) := by decide +kernel
theorem dX12_tellSeries_134 : decode cX12_tellSeries 134 = .ok (.aload_n 0, 1) := by decide +kernel
theorem dX12_tellSeries_135 : decode cX12_tellSeries 135 = .ok (.iconst 4, 1) := by decide +kernel
theorem dX12_tellSeries_136 : decode cX12_tellSeries 136 = .ok (.invokevirtual 216, 3) := by decide +kernel
theorem dX12_tellSeries_139 : decode cX12_tellSeries 139 = .ok (.aload_n 0, 1) := by decide +kernel
theorem dX12_tellSeries_140 : decode cX12_tellSeries 140 = .ok (.getfield 161, 3) := by decide +kernel
theorem dX12_tellSeries_143 : decode cX12_tellSeries 143 = .ok (.ifCond .ne 9, 3) := by decide +kernel
theorem dX12_tellSeries_146 : decode cX12_tellSeries 146 = .ok (.aload_n 0, 1) := by decide +kernel
theorem dX12_tellSeries_147 : decode cX12_tellSeries 147 = .ok (.bipush (-2), 2) := by decide +kernel
theorem dX12_tellSeries_149 : decode cX12_tellSeries 149 = .ok (.putfield 170, 3) := by decide +kernel
theorem dX12_tellSeries_152 : decode cX12_tellSeries 152 = .ok (.return_, 1) := by decide +kernel
set_option maxRecDepth 20000 in
theorem ggX12_tellQuery_X12_must : GoodIn wsX12_tellQuery wsX12_must := goodIn_r _ [15, 16, 17, 18, 14, 19, 6, 20, 4, 21, 22, 23, 24, 25, 26, 27, 28, 29, 30, 1, 31, 52, 53, 54, 55, 56, 57, 58, 59, 60, 61, 62, 63, 64, 65, 66, 67, 68, 69, 70, 71, 72, 73, 74, 75, 76, 77, 78, 79, 80, 81, 82, 83, 84, 85, 86, 87, 88, 89, 90, 91, 92, 93, 94, 95, 96, 97, 98, 99, 100, 101, 102, 103, 104, 105, 106] (by decide +kernel) (by decide +kernel)
set_option maxRecDepth 20000 in
theorem gX12_tellQuery_X12_must : GoodIn wsX12_tellQuery (wsV RX12 216 RX12 yX12_must wsX12_must) := goodIn_app (goodIn_of _ (by decide +kernel)) ggX12_tellQuery_X12_must
set_option maxRecDepth 20000 in
theorem ggX12_tellQuery_X12_wrong : GoodIn wsX12_tellQuery wsX12_wrong := goodIn_r _ [35, 29, 6, 36, 37, 1, 38, 52, 53, 54, 55, 56, 57, 58, 59, 60, 61, 62, 63, 64, 65, 66, 67, 68, 69, 70, 71, 72, 73, 74, 75, 76, 77, 78, 79, 80, 81, 82, 83, 84, 85, 86, 87, 88, 89, 90, 91, 92, 93, 94, 95, 96, 97, 98, 99, 100, 101, 102, 103, 104, 105, 106] (by decide +kernel) (by decide +kernel)
set_option maxRecDepth 20000 in
theorem gX12_tellQuery_X12_wrong : GoodIn wsX12_tellQuery (wsV RX12 231 RX12 yX12_wrong wsX12_wrong) := goodIn_app (goodIn_of _ (by decide +kernel)) ggX12_tellQuery_X12_wrong
set_option maxRecDepth 20000 in
theorem ggX12_tellQuery_X12_isReading : GoodIn wsX12_tellQuery wsX12_isReading := goodIn_r _ [42, 16, 17, 18, 14, 19, 6, 20, 4, 52, 53, 54, 55, 56, 57, 58, 59, 60, 61, 62, 63, 64, 65, 66, 67, 68, 69, 70, 71, 72, 73, 74, 75, 76, 77, 78, 79, 80, 81, 82, 83, 84, 85, 86, 87, 88, 89, 90, 91, 92, 93, 94, 95, 96, 97, 98, 99, 100, 101, 102, 103, 104, 105, 106] (by decide +kernel) (by decide +kernel)
set_option maxRecDepth 20000 in
theorem gX12_tellQuery_X12_isReading : GoodIn wsX12_tellQuery (wsV RX12 235 RX12 yX12_isReading wsX12_isReading) := goodIn_app (goodIn_of _ (by decide +kernel)) ggX12_tellQuery_X12_isReading
set_option maxRecDepth 20000 in
theorem ggX12_tellQuery_X12_fail : GoodIn wsX12_tellQuery wsX12_fail := goodIn_r _ [28, 6, 29, 4, 30, 1, 31, 52, 53, 54, 55, 56, 57, 58, 59, 60, 61, 62, 63, 64, 65, 66, 67, 68, 69, 70, 71, 72, 73, 74, 75, 76, 77, 78, 79, 80, 81, 82, 83, 84, 85, 86, 87, 88, 89, 90, 91, 92, 93, 94, 95, 96, 97, 98, 99, 100, 101, 102, 103, 104, 105, 106] (by decide +kernel) (by decide +kernel)
set_option maxRecDepth 20000 in
theorem gX12_tellQuery_X12_fail : GoodIn wsX12_tellQuery (wsV RX12 185 RX12 yX12_fail wsX12_fail) := goodIn_app (goodIn_of _ (by decide +kernel)) ggX12_tellQuery_X12_fail
set_option maxRecDepth 20000 in
theorem ggX12_tellQuery_X12_readingTold : GoodIn wsX12_tellQuery wsX12_readingTold := goodIn_r _ [46, 16, 17, 18, 14, 19, 6, 20, 4, 21, 22, 23, 24, 25, 26, 27, 28, 29, 30, 1, 31, 47, 48, 49, 50, 51, 32, 33, 34, 35, 36, 37, 38, 52, 53, 54, 55, 56, 57, 58, 59, 60, 61, 62, 63, 64, 65, 66, 67, 68, 69, 70, 71, 72, 73, 74, 75, 76, 77, 78, 79, 80, 81, 82, 83, 84, 85, 86, 87, 88, 89, 90, 91, 92, 93, 94, 95, 96, 97, 98, 99, 100, 101, 102, 103, 104, 105, 106] (by decide +kernel) (by decide +kernel)
set_option maxRecDepth 20000 in
theorem gX12_tellQuery_X12_readingTold : GoodIn wsX12_tellQuery (wsV RX12 240 RX12 yX12_readingTold wsX12_readingTold) := goodIn_app (goodIn_of _ (by decide +kernel)) ggX12_tellQuery_X12_readingTold
set_option maxRecDepth 20000 in
theorem ggX12_tellQuery_X12_is : GoodIn wsX12_tellQuery wsX12_is := goodIn_r _ [19, 6, 20, 4, 52, 53, 54, 55, 56, 57, 58, 59, 60, 61, 62, 63, 64, 65, 66, 67, 68, 69, 70, 71, 72, 73, 74, 75, 76, 77, 78, 79, 80, 81, 82, 83, 84, 85, 86, 87, 88, 89, 90, 91, 92, 93, 94, 95, 96, 97, 98, 99, 100, 101, 102, 103, 104, 105, 106] (by decide +kernel) (by decide +kernel)
set_option maxRecDepth 20000 in
theorem gX12_tellQuery_X12_is : GoodIn wsX12_tellQuery (wsV RX12 188 RX12 yX12_is wsX12_is) := goodIn_app (goodIn_of _ (by decide +kernel)) ggX12_tellQuery_X12_is
theorem dX12_tellQuery_0 : decode cX12_tellQuery 0 = .ok (.aload_n 0, 1) := by decide +kernel
theorem dX12_tellQuery_1 : decode cX12_tellQuery 1 = .ok (.iconst 0, 1) := by decide +kernel
theorem dX12_tellQuery_2 : decode cX12_tellQuery 2 = .ok (.putfield 170, 3) := by decide +kernel
theorem dX12_tellQuery_5 : decode cX12_tellQuery 5 = .ok (.iconst 5, 1) := by decide +kernel
theorem dX12_tellQuery_6 : decode cX12_tellQuery 6 = .ok (.aload_n 0, 1) := by decide +kernel
theorem dX12_tellQuery_7 : decode cX12_tellQuery 7 = .ok (.getfield 200, 3) := by decide +kernel
theorem dX12_tellQuery_10 : decode cX12_tellQuery 10 = .ok (.imul, 1) := by decide +kernel
theorem dX12_tellQuery_11 : decode cX12_tellQuery 11 = .ok (.aload_n 0, 1) := by decide +kernel
theorem dX12_tellQuery_12 : decode cX12_tellQuery 12 = .ok (.getfield 49, 3) := by decide +kernel
theorem dX12_tellQuery_15 : decode cX12_tellQuery 15 = .ok (.aload_n 0, 1) := by decide +kernel
theorem dX12_tellQuery_16 : decode cX12_tellQuery 16 = .ok (.getfield 200, 3) := by decide +kernel
theorem dX12_tellQuery_19 : decode cX12_tellQuery 19 = .ok (.iaload, 1) := by decide +kernel
theorem dX12_tellQuery_20 : decode cX12_tellQuery 20 = .ok (.iadd, 1) := by decide +kernel
theorem dX12_tellQuery_21 : decode cX12_tellQuery 21 = .ok (.istore_n 1, 1) := by decide +kernel
theorem dX12_tellQuery_22 : decode cX12_tellQuery 22 = .ok (.aload_n 0, 1) := by decide +kernel
theorem dX12_tellQuery_23 : decode cX12_tellQuery 23 = .ok (.getfield 164, 3) := by decide +kernel
theorem dX12_tellQuery_26 : decode cX12_tellQuery 26 = .ok (.istore_n 2, 1) := by decide +kernel
theorem dX12_tellQuery_27 : decode cX12_tellQuery 27 = .ok (.aload_n 0, 1) := by decide +kernel
theorem dX12_tellQuery_28 : decode cX12_tellQuery 28 = .ok (.iconst 1, 1) := by decide +kernel
theorem dX12_tellQuery_29 : decode cX12_tellQuery 29 = .ok (.invokevirtual 216, 3) := by decide +kernel
theorem dX12_tellQuery_32 : decode cX12_tellQuery 32 = .ok (.iconst 0, 1) := by decide +kernel
theorem dX12_tellQuery_33 : decode cX12_tellQuery 33 = .ok (.istore_n 3, 1) := by decide +kernel
theorem dX12_tellQuery_34 : decode cX12_tellQuery 34 = .ok (.iload_n 3, 1) := by decide +kernel
theorem dX12_tellQuery_35 : decode cX12_tellQuery 35 = .ok (.aload_n 0, 1) := by decide +kernel
theorem dX12_tellQuery_36 : decode cX12_tellQuery 36 = .ok (.getfield 203, 3) := by decide +kernel
theorem dX12_tellQuery_39 : decode cX12_tellQuery 39 = .ok (.if_icmp .ge 38, 3) := by decide +kernel
theorem dX12_tellQuery_42 : decode cX12_tellQuery 42 = .ok (.aload_n 0, 1) := by decide +kernel
theorem dX12_tellQuery_43 : decode cX12_tellQuery 43 = .ok (.getfield 161, 3) := by decide +kernel
theorem dX12_tellQuery_46 : decode cX12_tellQuery 46 = .ok (.ifCond .ne 31, 3) := by decide +kernel
theorem dX12_tellQuery_49 : decode cX12_tellQuery 49 = .ok (.aload_n 0, 1) := by decide +kernel
theorem dX12_tellQuery_50 : decode cX12_tellQuery 50 = .ok (.getfield 40, 3) := by decide +kernel
theorem dX12_tellQuery_53 : decode cX12_tellQuery 53 = .ok (.iload_n 3, 1) := by decide +kernel
theorem dX12_tellQuery_54 : decode cX12_tellQuery 54 = .ok (.laload, 1) := by decide +kernel
theorem dX12_tellQuery_55 : decode cX12_tellQuery 55 = .ok (.aload_n 0, 1) := by decide +kernel
theorem dX12_tellQuery_56 : decode cX12_tellQuery 56 = .ok (.getfield 30, 3) := by decide +kernel
theorem dX12_tellQuery_59 : decode cX12_tellQuery 59 = .ok (.iload_n 2, 1) := by decide +kernel
theorem dX12_tellQuery_60 : decode cX12_tellQuery 60 = .ok (.laload, 1) := by decide +kernel
theorem dX12_tellQuery_61 : decode cX12_tellQuery 61 = .ok (.lcmp, 1) := by decide +kernel
theorem dX12_tellQuery_62 : decode cX12_tellQuery 62 = .ok (.ifCond .ne 9, 3) := by decide +kernel
theorem dX12_tellQuery_65 : decode cX12_tellQuery 65 = .ok (.aload_n 0, 1) := by decide +kernel
theorem dX12_tellQuery_66 : decode cX12_tellQuery 66 = .ok (.iconst 3, 1) := by decide +kernel
theorem dX12_tellQuery_67 : decode cX12_tellQuery 67 = .ok (.iload_n 2, 1) := by decide +kernel
theorem dX12_tellQuery_68 : decode cX12_tellQuery 68 = .ok (.invokevirtual 231, 3) := by decide +kernel
theorem dX12_tellQuery_71 : decode cX12_tellQuery 71 = .ok (.iinc 3 1, 3) := by decide +kernel
theorem dX12_tellQuery_74 : decode cX12_tellQuery 74 = .ok (.goto (-40), 3) := by decide +kernel
theorem dX12_tellQuery_77 : decode cX12_tellQuery 77 = .ok (.aload_n 0, 1) := by decide +kernel
theorem dX12_tellQuery_78 : decode cX12_tellQuery 78 = .ok (.getfield 52, 3) := by decide +kernel
theorem dX12_tellQuery_81 : decode cX12_tellQuery 81 = .ok (.iload_n 1, 1) := by decide +kernel
theorem dX12_tellQuery_82 : decode cX12_tellQuery 82 = .ok (.iconst 0, 1) := by decide +kernel
theorem dX12_tellQuery_83 : decode cX12_tellQuery 83 = .ok (.iastore, 1) := by decide +kernel
theorem dX12_tellQuery_84 : decode cX12_tellQuery 84 = .ok (.aload_n 0, 1) := by decide +kernel
theorem dX12_tellQuery_85 : decode cX12_tellQuery 85 = .ok (.invokevirtual 235, 3) := by decide +kernel
theorem dX12_tellQuery_88 : decode cX12_tellQuery 88 = .ok (.ifCond .eq 78, 3) := by decide +kernel
theorem dX12_tellQuery_91 : decode cX12_tellQuery 91 = .ok (.aload_n 0, 1) := by decide +kernel
theorem dX12_tellQuery_92 : decode cX12_tellQuery 92 = .ok (.getfield 52, 3) := by decide +kernel
theorem dX12_tellQuery_95 : decode cX12_tellQuery 95 = .ok (.iload_n 1, 1) := by decide +kernel
theorem dX12_tellQuery_96 : decode cX12_tellQuery 96 = .ok (.iaload, 1) := by decide +kernel
theorem dX12_tellQuery_97 : decode cX12_tellQuery 97 = .ok (.bipush 16, 2) := by decide +kernel
theorem dX12_tellQuery_99 : decode cX12_tellQuery 99 = .ok (.if_icmp .ne 8, 3) := by decide +kernel
theorem dX12_tellQuery_102 : decode cX12_tellQuery 102 = .ok (.aload_n 0, 1) := by decide +kernel
theorem dX12_tellQuery_103 : decode cX12_tellQuery 103 = .ok (.iconst 2, 1) := by decide +kernel
theorem dX12_tellQuery_104 : decode cX12_tellQuery 104 = .ok (.invokevirtual 185, 3) := by decide +kernel
theorem dX12_tellQuery_107 : decode cX12_tellQuery 107 = .ok (.aload_n 0, 1) := by decide +kernel
theorem dX12_tellQuery_108 : decode cX12_tellQuery 108 = .ok (.getfield 161, 3) := by decide +kernel
theorem dX12_tellQuery_111 : decode cX12_tellQuery 111 = .ok (.ifCond .le 4, 3) := by decide +kernel
theorem dX12_tellQuery_114 : decode cX12_tellQuery 114 = .ok (.return_, 1) := by decide +kernel
theorem dX12_tellQuery_115 : decode cX12_tellQuery 115 = .ok (.aload_n 0, 1) := by decide +kernel
theorem dX12_tellQuery_116 : decode cX12_tellQuery 116 = .ok (.getfield 55, 3) := by decide +kernel
theorem dX12_tellQuery_119 : decode cX12_tellQuery 119 = .ok (.bipush 16, 2) := by decide +kernel
theorem dX12_tellQuery_121 : decode cX12_tellQuery 121 = .ok (.iload_n 1, 1) := by decide +kernel
theorem dX12_tellQuery_122 : decode cX12_tellQuery 122 = .ok (.imul, 1) := by decide +kernel
theorem dX12_tellQuery_123 : decode cX12_tellQuery 123 = .ok (.aload_n 0, 1) := by decide +kernel
theorem dX12_tellQuery_124 : decode cX12_tellQuery 124 = .ok (.getfield 52, 3) := by decide +kernel
theorem dX12_tellQuery_127 : decode cX12_tellQuery 127 = .ok (.iload_n 1, 1) := by decide +kernel
theorem dX12_tellQuery_128 : decode cX12_tellQuery 128 = .ok (.iaload, 1) := by decide +kernel
theorem dX12_tellQuery_129 : decode cX12_tellQuery 129 = .ok (.iadd, 1) := by decide +kernel
theorem dX12_tellQuery_130 : decode cX12_tellQuery 130 = .ok (.aload_n 0, 1) := by decide +kernel
theorem dX12_tellQuery_131 : decode cX12_tellQuery 131 = .ok (.invokevirtual 240, 3) := by decide +kernel
theorem dX12_tellQuery_134 : decode cX12_tellQuery 134 = .ok (.iastore, 1) := by decide +kernel
theorem dX12_tellQuery_135 : decode cX12_tellQuery 135 = .ok (.aload_n 0, 1) := by decide +kernel
theorem dX12_tellQuery_136 : decode cX12_tellQuery 136 = .ok (.getfield 161, 3) := by decide +kernel
theorem dX12_tellQuery_139 : decode cX12_tellQuery 139 = .ok (.ifCond .le 4, 3) := by decide +kernel
theorem dX12_tellQuery_142 : decode cX12_tellQuery 142 = .ok (.return_, 1) := by decide +kernel
theorem dX12_tellQuery_143 : decode cX12_tellQuery 143 = .ok (.aload_n 0, 1) := by decide +kernel
theorem dX12_tellQuery_144 : decode cX12_tellQuery 144 = .ok (.getfield 52, 3) := by decide +kernel
theorem dX12_tellQuery_147 : decode cX12_tellQuery 147 = .ok (.iload_n 1, 1) := by decide +kernel
theorem dX12_tellQuery_148 : decode cX12_tellQuery 148 = .ok (.dup2, 1) := by decide +kernel
theorem dX12_tellQuery_149 : decode cX12_tellQuery 149 = .ok (.iaload, 1) := by decide +kernel
theorem dX12_tellQuery_150 : decode cX12_tellQuery 150 = .ok (.iconst 1, 1) := by decide +kernel
theorem dX12_tellQuery_151 : decode cX12_tellQuery 151 = .ok (.iadd, 1) := by decide +kernel
theorem dX12_tellQuery_152 : decode cX12_tellQuery 152 = .ok (.iastore, 1) := by decide +kernel
theorem dX12_tellQuery_153 : decode cX12_tellQuery 153 = .ok (.aload_n 0, 1) := by decide +kernel
theorem dX12_tellQuery_154 : decode cX12_tellQuery 154 = .ok (.dup, 1) := by decide +kernel
theorem dX12_tellQuery_155 : decode cX12_tellQuery 155 = .ok (.getfield 170, 3) := by decide +kernel
theorem dX12_tellQuery_158 : decode cX12_tellQuery 158 = .ok (.iconst 1, 1) := by decide +kernel
theorem dX12_tellQuery_159 : decode cX12_tellQuery 159 = .ok (.iadd, 1) := by decide +kernel
theorem dX12_tellQuery_160 : decode cX12_tellQuery 160 = .ok (.putfield 170, 3) := by decide +kernel
theorem dX12_tellQuery_163 : decode cX12_tellQuery 163 = .ok (.goto (-79), 3) := by decide +kernel
theorem dX12_tellQuery_166 : decode cX12_tellQuery 166 = .ok (.aload_n 0, 1) := by decide +kernel
theorem dX12_tellQuery_167 : decode cX12_tellQuery 167 = .ok (.iconst 4, 1) := by decide +kernel
theorem dX12_tellQuery_168 : decode cX12_tellQuery 168 = .ok (.invokevirtual 188, 3) := by decide +kernel
theorem dX12_tellQuery_171 : decode cX12_tellQuery 171 = .ok (.ifCond .eq 23, 3) := by decide +kernel
theorem dX12_tellQuery_174 : decode cX12_tellQuery 174 = .ok (.aload_n 0, 1) := by decide +kernel
theorem dX12_tellQuery_175 : decode cX12_tellQuery 175 = .ok (.getfield 52, 3) := by decide +kernel
theorem dX12_tellQuery_178 : decode cX12_tellQuery 178 = .ok (.iload_n 1, 1) := by decide +kernel
theorem dX12_tellQuery_179 : decode cX12_tellQuery 179 = .ok (.iaload, 1) := by decide +kernel
theorem dX12_tellQuery_180 : decode cX12_tellQuery 180 = .ok (.iconst 2, 1) := by decide +kernel
theorem dX12_tellQuery_181 : decode cX12_tellQuery 181 = .ok (.if_icmp .ge 13, 3) := by decide +kernel
theorem dX12_tellQuery_184 : decode cX12_tellQuery 184 = .ok (.aload_n 0, 1) := by decide +kernel
theorem dX12_tellQuery_185 : decode cX12_tellQuery 185 = .ok (.bipush 6, 2) := by decide +kernel
theorem dX12_tellQuery_187 : decode cX12_tellQuery 187 = .ok (.aload_n 0, 1) := by decide +kernel
theorem dX12_tellQuery_188 : decode cX12_tellQuery 188 = .ok (.getfield 164, 3) := by decide +kernel
theorem dX12_tellQuery_191 : decode cX12_tellQuery 191 = .ok (.invokevirtual 231, 3) := by decide +kernel
theorem dX12_tellQuery_194 : decode cX12_tellQuery 194 = .ok (.aload_n 0, 1) := by decide +kernel
theorem dX12_tellQuery_195 : decode cX12_tellQuery 195 = .ok (.iconst 4, 1) := by decide +kernel
theorem dX12_tellQuery_196 : decode cX12_tellQuery 196 = .ok (.invokevirtual 216, 3) := by decide +kernel
theorem dX12_tellQuery_199 : decode cX12_tellQuery 199 = .ok (.aload_n 0, 1) := by decide +kernel
theorem dX12_tellQuery_200 : decode cX12_tellQuery 200 = .ok (.getfield 161, 3) := by decide +kernel
theorem dX12_tellQuery_203 : decode cX12_tellQuery 203 = .ok (.ifCond .le 4, 3) := by decide +kernel
theorem dX12_tellQuery_206 : decode cX12_tellQuery 206 = .ok (.return_, 1) := by decide +kernel
theorem dX12_tellQuery_207 : decode cX12_tellQuery 207 = .ok (.aload_n 0, 1) := by decide +kernel
theorem dX12_tellQuery_208 : decode cX12_tellQuery 208 = .ok (.bipush (-2), 2) := by decide +kernel
theorem dX12_tellQuery_210 : decode cX12_tellQuery 210 = .ok (.putfield 170, 3) := by decide +kernel
theorem dX12_tellQuery_213 : decode cX12_tellQuery 213 = .ok (.aload_n 0, 1) := by decide +kernel
theorem dX12_tellQuery_214 : decode cX12_tellQuery 214 = .ok (.getfield 40, 3) := by decide +kernel
theorem dX12_tellQuery_217 : decode cX12_tellQuery 217 = .ok (.aload_n 0, 1) := by decide +kernel
theorem dX12_tellQuery_218 : decode cX12_tellQuery 218 = .ok (.getfield 203, 3) := by decide +kernel
theorem dX12_tellQuery_221 : decode cX12_tellQuery 221 = .ok (.aload_n 0, 1) := by decide +kernel
theorem dX12_tellQuery_222 : decode cX12_tellQuery 222 = .ok (.getfield 30, 3) := by decide +kernel
theorem dX12_tellQuery_225 : decode cX12_tellQuery 225 = .ok (.iload_n 2, 1) := by decide +kernel
theorem dX12_tellQuery_226 : decode cX12_tellQuery 226 = .ok (.laload, 1) := by decide +kernel
theorem dX12_tellQuery_227 : decode cX12_tellQuery 227 = .ok (.lastore, 1) := by decide +kernel
theorem dX12_tellQuery_228 : decode cX12_tellQuery 228 = .ok (.aload_n 0, 1) := by decide +kernel
theorem dX12_tellQuery_229 : decode cX12_tellQuery 229 = .ok (.dup, 1) := by decide +kernel
theorem dX12_tellQuery_230 : decode cX12_tellQuery 230 = .ok (.getfield 203, 3) := by decide +kernel
theorem dX12_tellQuery_233 : decode cX12_tellQuery 233 = .ok (.iconst 1, 1) := by decide +kernel
theorem dX12_tellQuery_234 : decode cX12_tellQuery 234 = .ok (.iadd, 1) := by decide +kernel
theorem dX12_tellQuery_235 : decode cX12_tellQuery 235 = .ok (.putfield 203, 3) := by decide +kernel
theorem dX12_tellQuery_238 : decode cX12_tellQuery 238 = .ok (.aload_n 0, 1) := by decide +kernel
theorem dX12_tellQuery_239 : decode cX12_tellQuery 239 = .ok (.getfield 49, 3) := by decide +kernel
theorem dX12_tellQuery_242 : decode cX12_tellQuery 242 = .ok (.aload_n 0, 1) := by decide +kernel
theorem dX12_tellQuery_243 : decode cX12_tellQuery 243 = .ok (.getfield 200, 3) := by decide +kernel
theorem dX12_tellQuery_246 : decode cX12_tellQuery 246 = .ok (.dup2, 1) := by decide +kernel
theorem dX12_tellQuery_247 : decode cX12_tellQuery 247 = .ok (.iaload, 1) := by decide +kernel
theorem dX12_tellQuery_248 : decode cX12_tellQuery 248 = .ok (.iconst 1, 1) := by decide +kernel
theorem dX12_tellQuery_249 : decode cX12_tellQuery 249 = .ok (.iadd, 1) := by decide +kernel
theorem dX12_tellQuery_250 : decode cX12_tellQuery 250 = .ok (.iastore, 1) := by decide +kernel
theorem dX12_tellQuery_251 : decode cX12_tellQuery 251 = .ok (.return_, 1) := by decide +kernel
theorem dX12_in_0 : decode cX12_in 0 = .ok (.iload_n 0, 1) := by decide +kernel
theorem dX12_in_1 : decode cX12_in 1 = .ok (.iload_n 1, 1) := by decide +kernel
theorem dX12_in_2 : decode cX12_in 2 = .ok (.if_icmp .lt 12, 3) := by decide +kernel
theorem dX12_in_5 : decode cX12_in 5 = .ok (.iload_n 0, 1) := by decide +kernel
theorem dX12_in_6 : decode cX12_in 6 = .ok (.iload_n 2, 1) := by decide +kernel
theorem dX12_in_7 : decode cX12_in 7 = .ok (.if_icmp .gt 7, 3) := by decide +kernel
theorem dX12_in_10 : decode cX12_in 10 = .ok (.iconst 1, 1) := by decide +kernel
theorem dX12_in_11 : decode cX12_in 11 = .ok (.goto 4, 3) := by decide +kernel
theorem dX12_in_14 : decode cX12_in 14 = .ok (.iconst 0, 1) := by decide +kernel
theorem dX12_in_15 : decode cX12_in 15 = .ok (.ireturn, 1) := by decide +kernel
theorem dX12_downBy_0 : decode cX12_downBy 0 = .ok (.iload_n 0, 1) := by decide +kernel
theorem dX12_downBy_1 : decode cX12_downBy 1 = .ok (.iload_n 1, 1) := by decide +kernel
theorem dX12_downBy_2 : decode cX12_downBy 2 = .ok (.idiv, 1) := by decide +kernel
theorem dX12_downBy_3 : decode cX12_downBy 3 = .ok (.istore_n 2, 1) := by decide +kernel
theorem dX12_downBy_4 : decode cX12_downBy 4 = .ok (.iload_n 0, 1) := by decide +kernel
theorem dX12_downBy_5 : decode cX12_downBy 5 = .ok (.iload_n 1, 1) := by decide +kernel
theorem dX12_downBy_6 : decode cX12_downBy 6 = .ok (.irem, 1) := by decide +kernel
theorem dX12_downBy_7 : decode cX12_downBy 7 = .ok (.ifCond .ge 9, 3) := by decide +kernel
theorem dX12_downBy_10 : decode cX12_downBy 10 = .ok (.iload_n 2, 1) := by decide +kernel
theorem dX12_downBy_11 : decode cX12_downBy 11 = .ok (.iconst 1, 1) := by decide +kernel
theorem dX12_downBy_12 : decode cX12_downBy 12 = .ok (.isub, 1) := by decide +kernel
theorem dX12_downBy_13 : decode cX12_downBy 13 = .ok (.goto 4, 3) := by decide +kernel
theorem dX12_downBy_16 : decode cX12_downBy 16 = .ok (.iload_n 2, 1) := by decide +kernel
theorem dX12_downBy_17 : decode cX12_downBy 17 = .ok (.ireturn, 1) := by decide +kernel
theorem dX12_begins_0 : decode cX12_begins 0 = .ok (.iconst 0, 1) := by decide +kernel
theorem dX12_begins_1 : decode cX12_begins 1 = .ok (.istore_n 1, 1) := by decide +kernel
theorem dX12_begins_2 : decode cX12_begins 2 = .ok (.iload_n 1, 1) := by decide +kernel
theorem dX12_begins_3 : decode cX12_begins 3 = .ok (.sipush 165, 3) := by decide +kernel
theorem dX12_begins_6 : decode cX12_begins 6 = .ok (.if_icmp .ge 16, 3) := by decide +kernel
theorem dX12_begins_9 : decode cX12_begins 9 = .ok (.aload_n 0, 1) := by decide +kernel
theorem dX12_begins_10 : decode cX12_begins 10 = .ok (.getfield 73, 3) := by decide +kernel
theorem dX12_begins_13 : decode cX12_begins 13 = .ok (.iload_n 1, 1) := by decide +kernel
theorem dX12_begins_14 : decode cX12_begins 14 = .ok (.iconst 0, 1) := by decide +kernel
theorem dX12_begins_15 : decode cX12_begins 15 = .ok (.iastore, 1) := by decide +kernel
theorem dX12_begins_16 : decode cX12_begins 16 = .ok (.iinc 1 1, 3) := by decide +kernel
