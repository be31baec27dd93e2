theorem inlX0 : ∀ w ∈ wsX00, w ∈ wsL_law := fun _ h => List.mem_append_left _ (List.mem_append_left _ (List.mem_append_left _ (List.mem_append_left _ (List.mem_append_right _ h))))
theorem inX0 : ∀ w ∈ wsX00, w ∈ lw_tbl := fun w h => wsL_law_in w (inlX0 w h)
theorem inlX1 : ∀ w ∈ wsX10, w ∈ wsL_law := fun _ h => List.mem_append_left _ (List.mem_append_left _ (List.mem_append_left _ (List.mem_append_right _ h)))
theorem inX1 : ∀ w ∈ wsX10, w ∈ lw_tbl := fun w h => wsL_law_in w (inlX1 w h)
theorem inlX2 : ∀ w ∈ wsX20, w ∈ wsL_law := fun _ h => List.mem_append_left _ (List.mem_append_right _ h)
theorem inX2 : ∀ w ∈ wsX20, w ∈ lw_tbl := fun w h => wsL_law_in w (inlX2 w h)
theorem inlX3 : ∀ w ∈ wsX30, w ∈ wsL_law := fun _ h => List.mem_append_left _ (List.mem_append_left _ (List.mem_append_left _ (List.mem_append_left _ (List.mem_append_left _ (List.mem_append_left _ (List.mem_append_right _ h))))))
theorem inX3 : ∀ w ∈ wsX30, w ∈ lw_tbl := fun w h => wsL_law_in w (inlX3 w h)
theorem inlX4 : ∀ w ∈ wsX40, w ∈ wsL_law := fun _ h => List.mem_append_left _ (List.mem_append_left _ (List.mem_append_left _ (List.mem_append_left _ (List.mem_append_left _ (List.mem_append_left _ (List.mem_append_left _ (List.mem_append_left _ (List.mem_append_right _ h))))))))
theorem inX4 : ∀ w ∈ wsX40, w ∈ lw_tbl := fun w h => wsL_law_in w (inlX4 w h)
theorem inlX5 : ∀ w ∈ wsX50, w ∈ wsL_law := fun _ h => List.mem_append_left _ (List.mem_append_left _ (List.mem_append_left _ (List.mem_append_left _ (List.mem_append_left _ (List.mem_append_left _ (List.mem_append_left _ (List.mem_append_left _ (List.mem_append_left _ (List.mem_append_left _ (List.mem_append_right _ h))))))))))
theorem inX5 : ∀ w ∈ wsX50, w ∈ lw_tbl := fun w h => wsL_law_in w (inlX5 w h)
theorem inlX6 : ∀ w ∈ wsX60, w ∈ wsL_law := fun _ h => List.mem_append_left _ (List.mem_append_left _ (List.mem_append_left _ (List.mem_append_left _ (List.mem_append_left _ (List.mem_append_left _ (List.mem_append_left _ (List.mem_append_left _ (List.mem_append_left _ (List.mem_append_right _ h)))))))))
theorem inX6 : ∀ w ∈ wsX60, w ∈ lw_tbl := fun w h => wsL_law_in w (inlX6 w h)
theorem inlX7 : ∀ w ∈ wsX70, w ∈ wsL_law := fun _ h => List.mem_append_left _ (List.mem_append_left _ (List.mem_append_left _ (List.mem_append_left _ (List.mem_append_left _ (List.mem_append_left _ (List.mem_append_left _ (List.mem_append_right _ h)))))))
theorem inX7 : ∀ w ∈ wsX70, w ∈ lw_tbl := fun w h => wsL_law_in w (inlX7 w h)
theorem inlX8 : ∀ w ∈ wsX80, w ∈ wsL_law := fun _ h => List.mem_append_left _ (List.mem_append_left _ (List.mem_append_left _ (List.mem_append_left _ (List.mem_append_left _ (List.mem_append_right _ h)))))
theorem inX8 : ∀ w ∈ wsX80, w ∈ lw_tbl := fun w h => wsL_law_in w (inlX8 w h)
theorem inlX9 : ∀ w ∈ wsX90, w ∈ wsL_law := fun _ h => List.mem_append_left _ (List.mem_append_left _ (List.mem_append_right _ h))
theorem inX9 : ∀ w ∈ wsX90, w ∈ lw_tbl := fun w h => wsL_law_in w (inlX9 w h)
theorem inlX10 : ∀ w ∈ wsX100, w ∈ wsL_law := fun _ h => List.mem_append_left _ (List.mem_append_left _ (List.mem_append_left _ (List.mem_append_left _ (List.mem_append_left _ (List.mem_append_left _ (List.mem_append_left _ (List.mem_append_left _ (List.mem_append_left _ (List.mem_append_left _ (List.mem_append_left _ (List.mem_append_right _ h)))))))))))
theorem inX10 : ∀ w ∈ wsX100, w ∈ lw_tbl := fun w h => wsL_law_in w (inlX10 w h)
theorem inlX11 : ∀ w ∈ wsX110, w ∈ wsL_law := fun _ h => List.mem_append_left _ (List.mem_append_left _ (List.mem_append_left _ (List.mem_append_left _ (List.mem_append_left _ (List.mem_append_left _ (List.mem_append_left _ (List.mem_append_left _ (List.mem_append_left _ (List.mem_append_left _ (List.mem_append_left _ (List.mem_append_left _ (List.mem_append_left _ (List.mem_append_right _ h)))))))))))))
theorem inX11 : ∀ w ∈ wsX110, w ∈ lw_tbl := fun w h => wsL_law_in w (inlX11 w h)
theorem inlX12 : ∀ w ∈ wsX120, w ∈ wsL_law := fun _ h => List.mem_append_left _ (List.mem_append_left _ (List.mem_append_left _ (List.mem_append_left _ (List.mem_append_left _ (List.mem_append_left _ (List.mem_append_left _ (List.mem_append_left _ (List.mem_append_left _ (List.mem_append_left _ (List.mem_append_left _ (List.mem_append_left _ (List.mem_append_right _ h))))))))))))
theorem inX12 : ∀ w ∈ wsX120, w ∈ lw_tbl := fun w h => wsL_law_in w (inlX12 w h)
theorem inJx8e188 : ∀ w ∈ wsJx8e1880, w ∈ lw_tbl := by decide +kernel
theorem inJ9 : ∀ w ∈ wsJ90, w ∈ lw_tbl := by decide +kernel
theorem inJ0 : ∀ w ∈ wsJ00, w ∈ lw_tbl := by decide +kernel
theorem inJ1 : ∀ w ∈ wsJ10, w ∈ lw_tbl := by decide +kernel
theorem inJ2 : ∀ w ∈ wsJ20, w ∈ lw_tbl := by decide +kernel
theorem inJ3 : ∀ w ∈ wsJ30, w ∈ lw_tbl := by decide +kernel
set_option maxRecDepth 20000 in
theorem ggX0_init_X2_init : GoodIn wsX0_init wsX2_init := goodIn_r _ [12, 13, 2, 3, 14, 15, 16, 17, 18, 19, 20, 21, 22, 23, 24, 25, 26, 27, 28, 29] (by decide +kernel) (by decide +kernel)
set_option maxRecDepth 20000 in
theorem gX0_init_X2_init_n11 : GoodIn wsX0_init (wsX2_init) := ggX0_init_X2_init
theorem dX0_init_0 : decode cX0_init 0 = .ok (.aload_n 0, 1) := by decide +kernel
theorem dX0_init_1 : decode cX0_init 1 = .ok (.invokespecial 3, 3) := by decide +kernel
theorem dX0_init_4 : decode cX0_init 4 = .ok (.aload_n 0, 1) := by decide +kernel
theorem dX0_init_5 : decode cX0_init 5 = .ok (.new 9, 3) := by decide +kernel
theorem dX0_init_8 : decode cX0_init 8 = .ok (.dup, 1) := by decide +kernel
theorem dX0_init_9 : decode cX0_init 9 = .ok (.invokespecial 11, 3) := by decide +kernel
theorem dX0_init_12 : decode cX0_init 12 = .ok (.putfield 12, 3) := by decide +kernel
theorem dX0_init_15 : decode cX0_init 15 = .ok (.aload_n 0, 1) := by decide +kernel
theorem dX0_init_16 : decode cX0_init 16 = .ok (.aload_n 1, 1) := by decide +kernel
theorem dX0_init_17 : decode cX0_init 17 = .ok (.putfield 18, 3) := by decide +kernel
theorem dX0_init_20 : decode cX0_init 20 = .ok (.aload_n 0, 1) := by decide +kernel
theorem dX0_init_21 : decode cX0_init 21 = .ok (.aload_n 2, 1) := by decide +kernel
theorem dX0_init_22 : decode cX0_init 22 = .ok (.putfield 22, 3) := by decide +kernel
theorem dX0_init_25 : decode cX0_init 25 = .ok (.aload_n 0, 1) := by decide +kernel
theorem dX0_init_26 : decode cX0_init 26 = .ok (.aload_n 3, 1) := by decide +kernel
theorem dX0_init_27 : decode cX0_init 27 = .ok (.putfield 26, 3) := by decide +kernel
theorem dX0_init_30 : decode cX0_init 30 = .ok (.return_, 1) := by decide +kernel
set_option maxRecDepth 20000 in
theorem ggX0_hasBoth_X4_has : GoodIn wsX0_hasBoth wsX4_has := goodIn_r _ [7, 8, 36, 37, 38] (by decide +kernel) (by decide +kernel)
set_option maxRecDepth 20000 in
theorem gX0_hasBoth_X4_has : GoodIn wsX0_hasBoth (wsV RX0 30 RX4 yX4_has wsX4_has) := goodIn_app (goodIn_of _ (by decide +kernel)) ggX0_hasBoth_X4_has
set_option maxRecDepth 20000 in
theorem ggX0_hasBoth_X4_lengthOf : GoodIn wsX0_hasBoth wsX4_lengthOf := goodIn_r _ [12, 13, 14, 4, 5, 6, 7, 8, 36, 37, 38] (by decide +kernel) (by decide +kernel)
set_option maxRecDepth 20000 in
theorem gX0_hasBoth_X4_lengthOf : GoodIn wsX0_hasBoth (wsV RX0 36 RX4 yX4_lengthOf wsX4_lengthOf) := goodIn_app (goodIn_of _ (by decide +kernel)) ggX0_hasBoth_X4_lengthOf
set_option maxRecDepth 20000 in
theorem ggX0_hasBoth_X6_hasWindow : GoodIn wsX0_hasBoth wsX6_hasWindow := goodIn_r _ [19, 20, 21, 22, 23, 18, 24, 25, 26, 27, 28, 29, 30, 39, 40, 41] (by decide +kernel) (by decide +kernel)
set_option maxRecDepth 20000 in
theorem gX0_hasBoth_X6_hasWindow : GoodIn wsX0_hasBoth (wsV RX0 40 RX6 yX6_hasWindow wsX6_hasWindow) := goodIn_app (goodIn_of _ (by decide +kernel)) ggX0_hasBoth_X6_hasWindow
theorem dX0_hasBoth_0 : decode cX0_hasBoth 0 = .ok (.aload_n 0, 1) := by decide +kernel
theorem dX0_hasBoth_1 : decode cX0_hasBoth 1 = .ok (.getfield 22, 3) := by decide +kernel
theorem dX0_hasBoth_4 : decode cX0_hasBoth 4 = .ok (.iload_n 1, 1) := by decide +kernel
theorem dX0_hasBoth_5 : decode cX0_hasBoth 5 = .ok (.invokevirtual 30, 3) := by decide +kernel
theorem dX0_hasBoth_8 : decode cX0_hasBoth 8 = .ok (.ifCond .eq 26, 3) := by decide +kernel
theorem dX0_hasBoth_11 : decode cX0_hasBoth 11 = .ok (.aload_n 0, 1) := by decide +kernel
theorem dX0_hasBoth_12 : decode cX0_hasBoth 12 = .ok (.getfield 18, 3) := by decide +kernel
theorem dX0_hasBoth_15 : decode cX0_hasBoth 15 = .ok (.iload_n 2, 1) := by decide +kernel
theorem dX0_hasBoth_16 : decode cX0_hasBoth 16 = .ok (.aload_n 0, 1) := by decide +kernel
theorem dX0_hasBoth_17 : decode cX0_hasBoth 17 = .ok (.getfield 22, 3) := by decide +kernel
theorem dX0_hasBoth_20 : decode cX0_hasBoth 20 = .ok (.iload_n 1, 1) := by decide +kernel
theorem dX0_hasBoth_21 : decode cX0_hasBoth 21 = .ok (.invokevirtual 36, 3) := by decide +kernel
theorem dX0_hasBoth_24 : decode cX0_hasBoth 24 = .ok (.invokevirtual 40, 3) := by decide +kernel
theorem dX0_hasBoth_27 : decode cX0_hasBoth 27 = .ok (.ifCond .eq 7, 3) := by decide +kernel
theorem dX0_hasBoth_30 : decode cX0_hasBoth 30 = .ok (.iconst 1, 1) := by decide +kernel
theorem dX0_hasBoth_31 : decode cX0_hasBoth 31 = .ok (.goto 4, 3) := by decide +kernel
theorem dX0_hasBoth_34 : decode cX0_hasBoth 34 = .ok (.iconst 0, 1) := by decide +kernel
theorem dX0_hasBoth_35 : decode cX0_hasBoth 35 = .ok (.ireturn, 1) := by decide +kernel
set_option maxRecDepth 20000 in
theorem ggX0_openBoth_X0_hasBoth : GoodIn wsX0_openBoth wsX0_hasBoth := goodIn_r _ [6, 7, 8, 9, 10, 11, 12, 13, 14, 15, 16, 17, 18, 19, 20, 21, 22, 23, 24, 25, 26, 27, 28, 29, 30, 31, 32, 33, 34, 35, 36, 108, 109, 110, 111, 112, 113, 114, 115, 116, 117, 118] (by decide +kernel) (by decide +kernel)
set_option maxRecDepth 20000 in
theorem gX0_openBoth_X0_hasBoth : GoodIn wsX0_openBoth (wsV RX0 46 RX0 yX0_hasBoth wsX0_hasBoth) := goodIn_app (goodIn_of _ (by decide +kernel)) ggX0_openBoth_X0_hasBoth
set_option maxRecDepth 20000 in
theorem ggX0_openBoth_X7_valueOf : GoodIn wsX0_openBoth wsX7_valueOf := goodIn_r _ [41, 42, 119] (by decide +kernel) (by decide +kernel)
set_option maxRecDepth 20000 in
theorem gX0_openBoth_X7_valueOf : GoodIn wsX0_openBoth (wsV RX0 49 RX7 yX7_valueOf wsX7_valueOf) := goodIn_app (goodIn_of _ (by decide +kernel)) ggX0_openBoth_X7_valueOf
set_option maxRecDepth 20000 in
theorem ggX0_openBoth_X0_openQuery : GoodIn wsX0_openBoth wsX0_openQuery := goodIn_r _ [46, 7, 47, 48, 1, 15, 16, 17, 12, 18, 19, 20, 10, 11, 13, 14, 49, 50, 51, 5, 52, 53, 37, 38, 39, 40, 41, 42, 54, 55, 56, 57, 58, 59, 60, 61, 62, 63, 64, 65, 66, 67, 68, 69, 70, 71, 72, 73, 74, 75, 76, 77, 78, 79, 80, 81, 82, 83, 84, 85, 86, 87, 88, 89, 90, 91, 92, 93, 94, 95, 96, 97, 98, 108, 109, 110, 111, 112, 120, 121, 122, 123, 124, 125, 126, 127, 128, 129, 113, 114, 115, 119] (by decide +kernel) (by decide +kernel)
set_option maxRecDepth 20000 in
theorem gX0_openBoth_X0_openQuery : GoodIn wsX0_openBoth (wsV RX0 54 RX0 yX0_openQuery wsX0_openQuery) := goodIn_app (goodIn_of _ (by decide +kernel)) ggX0_openBoth_X0_openQuery
set_option maxRecDepth 20000 in
theorem ggX0_openBoth_X0_laySecondWindow : GoodIn wsX0_openBoth wsX0_laySecondWindow := goodIn_r _ [102, 8, 53, 47, 103, 1, 104, 105, 106, 24, 107, 31, 32, 33, 34, 26, 35, 36, 37, 38, 39, 40, 41, 42, 79, 80, 81, 57, 82, 66, 83, 84, 85, 86, 87, 88, 89, 90, 91, 92, 93, 94, 95, 96, 97, 98, 59, 60, 61, 62, 63, 64, 65, 108, 109, 110, 111, 112, 120, 121, 122, 123, 124, 125, 126, 127, 128, 129, 116, 117, 118, 119] (by decide +kernel) (by decide +kernel)
set_option maxRecDepth 20000 in
theorem gX0_openBoth_X0_laySecondWindow : GoodIn wsX0_openBoth (wsV RX0 58 RX0 yX0_laySecondWindow wsX0_laySecondWindow) := goodIn_app (goodIn_of _ (by decide +kernel)) ggX0_openBoth_X0_laySecondWindow
theorem dX0_openBoth_0 : decode cX0_openBoth 0 = .ok (.aload_n 0, 1) := by decide +kernel
theorem dX0_openBoth_1 : decode cX0_openBoth 1 = .ok (.iload_n 1, 1) := by decide +kernel
theorem dX0_openBoth_2 : decode cX0_openBoth 2 = .ok (.iload_n 2, 1) := by decide +kernel
theorem dX0_openBoth_3 : decode cX0_openBoth 3 = .ok (.invokevirtual 46, 3) := by decide +kernel
theorem dX0_openBoth_6 : decode cX0_openBoth 6 = .ok (.ifCond .ne 5, 3) := by decide +kernel
theorem dX0_openBoth_9 : decode cX0_openBoth 9 = .ok (.iconst 0, 1) := by decide +kernel
theorem dX0_openBoth_10 : decode cX0_openBoth 10 = .ok (.ireturn, 1) := by decide +kernel
theorem dX0_openBoth_11 : decode cX0_openBoth 11 = .ok (.aload_n 0, 1) := by decide +kernel
theorem dX0_openBoth_12 : decode cX0_openBoth 12 = .ok (.iload_n 1, 1) := by decide +kernel
theorem dX0_openBoth_13 : decode cX0_openBoth 13 = .ok (.aload_n 0, 1) := by decide +kernel
theorem dX0_openBoth_14 : decode cX0_openBoth 14 = .ok (.getfield 26, 3) := by decide +kernel
theorem dX0_openBoth_17 : decode cX0_openBoth 17 = .ok (.iconst 0, 1) := by decide +kernel
theorem dX0_openBoth_18 : decode cX0_openBoth 18 = .ok (.invokevirtual 49, 3) := by decide +kernel
theorem dX0_openBoth_21 : decode cX0_openBoth 21 = .ok (.invokevirtual 54, 3) := by decide +kernel
theorem dX0_openBoth_24 : decode cX0_openBoth 24 = .ok (.aload_n 0, 1) := by decide +kernel
theorem dX0_openBoth_25 : decode cX0_openBoth 25 = .ok (.iload_n 2, 1) := by decide +kernel
theorem dX0_openBoth_26 : decode cX0_openBoth 26 = .ok (.invokevirtual 58, 3) := by decide +kernel
theorem dX0_openBoth_29 : decode cX0_openBoth 29 = .ok (.iconst 1, 1) := by decide +kernel
theorem dX0_openBoth_30 : decode cX0_openBoth 30 = .ok (.ireturn, 1) := by decide +kernel
set_option maxRecDepth 20000 in
theorem ggX0_openQuery_X4_lengthOf : GoodIn wsX0_openQuery wsX4_lengthOf := goodIn_r _ [9, 10, 11, 12, 13, 8, 14, 15, 88, 89, 90] (by decide +kernel) (by decide +kernel)
set_option maxRecDepth 20000 in
theorem gX0_openQuery_X4_lengthOf : GoodIn wsX0_openQuery (wsV RX0 36 RX4 yX4_lengthOf wsX4_lengthOf) := goodIn_app (goodIn_of _ (by decide +kernel)) ggX0_openQuery_X4_lengthOf
set_option maxRecDepth 20000 in
theorem ggX0_openQuery_X0_begin : GoodIn wsX0_openQuery wsX0_begin := goodIn_r _ [20, 21, 2, 4, 22, 23, 24, 25, 26, 27, 28, 29, 30, 31, 32, 33, 34, 35, 36, 37, 38, 39, 40, 41, 42, 73, 74, 75, 76, 77, 91, 78, 79, 80, 81, 82, 83, 84, 85, 86, 87] (by decide +kernel) (by decide +kernel)
set_option maxRecDepth 20000 in
theorem gX0_openQuery_X0_begin : GoodIn wsX0_openQuery (wsV RX0 62 RX0 yX0_begin wsX0_begin) := goodIn_app (goodIn_of _ (by decide +kernel)) ggX0_openQuery_X0_begin
set_option maxRecDepth 20000 in
theorem ggX0_openQuery_X4_copyQuery : GoodIn wsX0_openQuery wsX4_copyQuery := goodIn_r _ [46, 47, 6, 7, 8, 9, 10, 11, 12, 13, 14, 15, 48, 49, 50, 51, 52, 88, 89, 90] (by decide +kernel) (by decide +kernel)
set_option maxRecDepth 20000 in
theorem gX0_openQuery_X4_copyQuery : GoodIn wsX0_openQuery (wsV RX0 69 RX4 yX4_copyQuery wsX4_copyQuery) := goodIn_app (goodIn_of _ (by decide +kernel)) ggX0_openQuery_X4_copyQuery
set_option maxRecDepth 20000 in
theorem ggX0_openQuery_X7_valueOf : GoodIn wsX0_openQuery wsX7_valueOf := goodIn_r _ [26, 27, 91] (by decide +kernel) (by decide +kernel)
set_option maxRecDepth 20000 in
theorem gX0_openQuery_X7_valueOf : GoodIn wsX0_openQuery (wsV RX0 49 RX7 yX7_valueOf wsX7_valueOf) := goodIn_app (goodIn_of _ (by decide +kernel)) ggX0_openQuery_X7_valueOf
set_option maxRecDepth 20000 in
theorem ggX0_openQuery_X2_bringToLevel : GoodIn wsX0_openQuery wsX2_bringToLevel := goodIn_r _ [56, 40, 57, 58, 59, 31, 60, 61, 62, 63, 64, 65, 66, 67, 68, 69, 70, 71, 72, 33, 34, 35, 36, 37, 38, 39, 78, 79, 80, 81, 82, 83, 84, 85, 86, 87] (by decide +kernel) (by decide +kernel)
set_option maxRecDepth 20000 in
theorem gX0_openQuery_X2_bringToLevel : GoodIn wsX0_openQuery (wsV RX0 73 RX2 yX2_bringToLevel wsX2_bringToLevel) := goodIn_app (goodIn_of _ (by decide +kernel)) ggX0_openQuery_X2_bringToLevel
theorem dX0_openQuery_0 : decode cX0_openQuery 0 = .ok (.aload_n 0, 1) := by decide +kernel
theorem dX0_openQuery_1 : decode cX0_openQuery 1 = .ok (.aload_n 0, 1) := by decide +kernel
theorem dX0_openQuery_2 : decode cX0_openQuery 2 = .ok (.getfield 22, 3) := by decide +kernel
theorem dX0_openQuery_5 : decode cX0_openQuery 5 = .ok (.iload_n 1, 1) := by decide +kernel
theorem dX0_openQuery_6 : decode cX0_openQuery 6 = .ok (.invokevirtual 36, 3) := by decide +kernel
theorem dX0_openQuery_9 : decode cX0_openQuery 9 = .ok (.iload_n 2, 1) := by decide +kernel
theorem dX0_openQuery_10 : decode cX0_openQuery 10 = .ok (.invokevirtual 62, 3) := by decide +kernel
theorem dX0_openQuery_13 : decode cX0_openQuery 13 = .ok (.aload_n 0, 1) := by decide +kernel
theorem dX0_openQuery_14 : decode cX0_openQuery 14 = .ok (.getfield 22, 3) := by decide +kernel
theorem dX0_openQuery_17 : decode cX0_openQuery 17 = .ok (.iload_n 1, 1) := by decide +kernel
theorem dX0_openQuery_18 : decode cX0_openQuery 18 = .ok (.aload_n 0, 1) := by decide +kernel
theorem dX0_openQuery_19 : decode cX0_openQuery 19 = .ok (.getfield 12, 3) := by decide +kernel
theorem dX0_openQuery_22 : decode cX0_openQuery 22 = .ok (.getfield 65, 3) := by decide +kernel
theorem dX0_openQuery_25 : decode cX0_openQuery 25 = .ok (.invokevirtual 69, 3) := by decide +kernel
theorem dX0_openQuery_28 : decode cX0_openQuery 28 = .ok (.aload_n 0, 1) := by decide +kernel
theorem dX0_openQuery_29 : decode cX0_openQuery 29 = .ok (.getfield 12, 3) := by decide +kernel
theorem dX0_openQuery_32 : decode cX0_openQuery 32 = .ok (.aload_n 0, 1) := by decide +kernel
theorem dX0_openQuery_33 : decode cX0_openQuery 33 = .ok (.getfield 12, 3) := by decide +kernel
theorem dX0_openQuery_36 : decode cX0_openQuery 36 = .ok (.getfield 65, 3) := by decide +kernel
theorem dX0_openQuery_39 : decode cX0_openQuery 39 = .ok (.aload_n 0, 1) := by decide +kernel
theorem dX0_openQuery_40 : decode cX0_openQuery 40 = .ok (.getfield 26, 3) := by decide +kernel
theorem dX0_openQuery_43 : decode cX0_openQuery 43 = .ok (.iconst 1, 1) := by decide +kernel
theorem dX0_openQuery_44 : decode cX0_openQuery 44 = .ok (.invokevirtual 49, 3) := by decide +kernel
theorem dX0_openQuery_47 : decode cX0_openQuery 47 = .ok (.invokevirtual 73, 3) := by decide +kernel
theorem dX0_openQuery_50 : decode cX0_openQuery 50 = .ok (.return_, 1) := by decide +kernel
set_option maxRecDepth 20000 in
theorem ggX0_openWindow_X7_valueOf : GoodIn wsX0_openWindow wsX7_valueOf := goodIn_r _ [10, 11, 79] (by decide +kernel) (by decide +kernel)
set_option maxRecDepth 20000 in
theorem gX0_openWindow_X7_valueOf : GoodIn wsX0_openWindow (wsV RX0 49 RX7 yX7_valueOf wsX7_valueOf) := goodIn_app (goodIn_of _ (by decide +kernel)) ggX0_openWindow_X7_valueOf
set_option maxRecDepth 20000 in
theorem ggX0_openWindow_X0_begin : GoodIn wsX0_openWindow wsX0_begin := goodIn_r _ [16, 3, 4, 1, 6, 7, 8, 9, 10, 11, 17, 18, 19, 20, 21, 22, 23, 24, 25, 26, 27, 28, 29, 30, 31, 64, 65, 66, 67, 68, 79, 69, 70, 71, 72, 73, 74, 75, 76, 77, 78] (by decide +kernel) (by decide +kernel)
set_option maxRecDepth 20000 in
theorem gX0_openWindow_X0_begin : GoodIn wsX0_openWindow (wsV RX0 62 RX0 yX0_begin wsX0_begin) := goodIn_app (goodIn_of _ (by decide +kernel)) ggX0_openWindow_X0_begin
set_option maxRecDepth 20000 in
theorem ggX0_openWindow_X6_copyWindow : GoodIn wsX0_openWindow wsX6_copyWindow := goodIn_r _ [36, 37, 38, 39, 35, 40, 41, 42, 43, 80, 81, 82] (by decide +kernel) (by decide +kernel)
set_option maxRecDepth 20000 in
theorem gX0_openWindow_X6_copyWindow : GoodIn wsX0_openWindow (wsV RX0 81 RX6 yX6_copyWindow wsX6_copyWindow) := goodIn_app (goodIn_of _ (by decide +kernel)) ggX0_openWindow_X6_copyWindow
set_option maxRecDepth 20000 in
theorem ggX0_openWindow_X2_bringToLevel : GoodIn wsX0_openWindow wsX2_bringToLevel := goodIn_r _ [47, 29, 48, 49, 50, 20, 51, 52, 53, 54, 55, 56, 57, 58, 59, 60, 61, 62, 63, 22, 23, 24, 25, 26, 27, 28, 69, 70, 71, 72, 73, 74, 75, 76, 77, 78] (by decide +kernel) (by decide +kernel)
set_option maxRecDepth 20000 in
theorem gX0_openWindow_X2_bringToLevel : GoodIn wsX0_openWindow (wsV RX0 73 RX2 yX2_bringToLevel wsX2_bringToLevel) := goodIn_app (goodIn_of _ (by decide +kernel)) ggX0_openWindow_X2_bringToLevel
theorem dX0_openWindow_0 : decode cX0_openWindow 0 = .ok (.aload_n 0, 1) := by decide +kernel
theorem dX0_openWindow_1 : decode cX0_openWindow 1 = .ok (.iload_n 2, 1) := by decide +kernel
theorem dX0_openWindow_2 : decode cX0_openWindow 2 = .ok (.aload_n 0, 1) := by decide +kernel
theorem dX0_openWindow_3 : decode cX0_openWindow 3 = .ok (.getfield 26, 3) := by decide +kernel
theorem dX0_openWindow_6 : decode cX0_openWindow 6 = .ok (.iconst 0, 1) := by decide +kernel
theorem dX0_openWindow_7 : decode cX0_openWindow 7 = .ok (.invokevirtual 49, 3) := by decide +kernel
theorem dX0_openWindow_10 : decode cX0_openWindow 10 = .ok (.invokevirtual 62, 3) := by decide +kernel
theorem dX0_openWindow_13 : decode cX0_openWindow 13 = .ok (.aload_n 0, 1) := by decide +kernel
theorem dX0_openWindow_14 : decode cX0_openWindow 14 = .ok (.getfield 18, 3) := by decide +kernel
theorem dX0_openWindow_17 : decode cX0_openWindow 17 = .ok (.iload_n 1, 1) := by decide +kernel
theorem dX0_openWindow_18 : decode cX0_openWindow 18 = .ok (.aload_n 0, 1) := by decide +kernel
theorem dX0_openWindow_19 : decode cX0_openWindow 19 = .ok (.getfield 77, 3) := by decide +kernel
theorem dX0_openWindow_22 : decode cX0_openWindow 22 = .ok (.aload_n 0, 1) := by decide +kernel
theorem dX0_openWindow_23 : decode cX0_openWindow 23 = .ok (.getfield 12, 3) := by decide +kernel
theorem dX0_openWindow_26 : decode cX0_openWindow 26 = .ok (.getfield 65, 3) := by decide +kernel
theorem dX0_openWindow_29 : decode cX0_openWindow 29 = .ok (.invokevirtual 81, 3) := by decide +kernel
theorem dX0_openWindow_32 : decode cX0_openWindow 32 = .ok (.aload_n 0, 1) := by decide +kernel
theorem dX0_openWindow_33 : decode cX0_openWindow 33 = .ok (.getfield 12, 3) := by decide +kernel
theorem dX0_openWindow_36 : decode cX0_openWindow 36 = .ok (.aload_n 0, 1) := by decide +kernel
theorem dX0_openWindow_37 : decode cX0_openWindow 37 = .ok (.getfield 12, 3) := by decide +kernel
theorem dX0_openWindow_40 : decode cX0_openWindow 40 = .ok (.getfield 65, 3) := by decide +kernel
theorem dX0_openWindow_43 : decode cX0_openWindow 43 = .ok (.aload_n 0, 1) := by decide +kernel
theorem dX0_openWindow_44 : decode cX0_openWindow 44 = .ok (.getfield 26, 3) := by decide +kernel
theorem dX0_openWindow_47 : decode cX0_openWindow 47 = .ok (.iconst 1, 1) := by decide +kernel
theorem dX0_openWindow_48 : decode cX0_openWindow 48 = .ok (.invokevirtual 49, 3) := by decide +kernel
theorem dX0_openWindow_51 : decode cX0_openWindow 51 = .ok (.invokevirtual 73, 3) := by decide +kernel
theorem dX0_openWindow_54 : decode cX0_openWindow 54 = .ok (.return_, 1) := by decide +kernel
set_option maxRecDepth 20000 in
theorem ggX0_begin_X7_valueOf : GoodIn wsX0_begin wsX7_valueOf := goodIn_r _ [8, 9, 30] (by decide +kernel) (by decide +kernel)
set_option maxRecDepth 20000 in
theorem gX0_begin_X7_valueOf : GoodIn wsX0_begin (wsV RX0 49 RX7 yX7_valueOf wsX7_valueOf) := goodIn_app (goodIn_of _ (by decide +kernel)) ggX0_begin_X7_valueOf
set_option maxRecDepth 20000 in
theorem ggX0_begin_X2_begin : GoodIn wsX0_begin wsX2_begin := goodIn_r _ [14, 15, 16, 17, 18, 19, 20, 21, 22, 23, 24, 31, 32, 33, 34, 35, 36, 37, 38, 39, 40] (by decide +kernel) (by decide +kernel)
set_option maxRecDepth 20000 in
theorem gX0_begin_X2_begin : GoodIn wsX0_begin (wsV RX0 85 RX2 yX2_begin wsX2_begin) := goodIn_app (goodIn_of _ (by decide +kernel)) ggX0_begin_X2_begin
theorem dX0_begin_0 : decode cX0_begin 0 = .ok (.aload_n 0, 1) := by decide +kernel
theorem dX0_begin_1 : decode cX0_begin 1 = .ok (.iload_n 1, 1) := by decide +kernel
theorem dX0_begin_2 : decode cX0_begin 2 = .ok (.putfield 77, 3) := by decide +kernel
theorem dX0_begin_5 : decode cX0_begin 5 = .ok (.aload_n 0, 1) := by decide +kernel
theorem dX0_begin_6 : decode cX0_begin 6 = .ok (.getfield 12, 3) := by decide +kernel
theorem dX0_begin_9 : decode cX0_begin 9 = .ok (.iload_n 1, 1) := by decide +kernel
theorem dX0_begin_10 : decode cX0_begin 10 = .ok (.iload_n 2, 1) := by decide +kernel
theorem dX0_begin_11 : decode cX0_begin 11 = .ok (.aload_n 0, 1) := by decide +kernel
theorem dX0_begin_12 : decode cX0_begin 12 = .ok (.getfield 26, 3) := by decide +kernel
theorem dX0_begin_15 : decode cX0_begin 15 = .ok (.iconst 2, 1) := by decide +kernel
theorem dX0_begin_16 : decode cX0_begin 16 = .ok (.invokevirtual 49, 3) := by decide +kernel
theorem dX0_begin_19 : decode cX0_begin 19 = .ok (.invokevirtual 85, 3) := by decide +kernel
theorem dX0_begin_22 : decode cX0_begin 22 = .ok (.return_, 1) := by decide +kernel
set_option maxRecDepth 20000 in
theorem ggX0_laySecondWindow_X6_copyWindow : GoodIn wsX0_laySecondWindow wsX6_copyWindow := goodIn_r _ [10, 11, 12, 13, 9, 14, 15, 16, 17, 68, 69, 70] (by decide +kernel) (by decide +kernel)
set_option maxRecDepth 20000 in
theorem gX0_laySecondWindow_X6_copyWindow : GoodIn wsX0_laySecondWindow (wsV RX0 81 RX6 yX6_copyWindow wsX6_copyWindow) := goodIn_app (goodIn_of _ (by decide +kernel)) ggX0_laySecondWindow_X6_copyWindow
set_option maxRecDepth 20000 in
theorem ggX0_laySecondWindow_X7_valueOf : GoodIn wsX0_laySecondWindow wsX7_valueOf := goodIn_r _ [22, 23, 71] (by decide +kernel) (by decide +kernel)
set_option maxRecDepth 20000 in
theorem gX0_laySecondWindow_X7_valueOf : GoodIn wsX0_laySecondWindow (wsV RX0 49 RX7 yX7_valueOf wsX7_valueOf) := goodIn_app (goodIn_of _ (by decide +kernel)) ggX0_laySecondWindow_X7_valueOf
set_option maxRecDepth 20000 in
theorem ggX0_laySecondWindow_X2_bringToLevel : GoodIn wsX0_laySecondWindow wsX2_bringToLevel := goodIn_r _ [28, 29, 30, 31, 32, 27, 33, 34, 35, 36, 37, 38, 39, 40, 41, 42, 43, 44, 45, 46, 47, 48, 49, 50, 51, 52, 58, 59, 60, 61, 62, 63, 64, 65, 66, 67] (by decide +kernel) (by decide +kernel)
set_option maxRecDepth 20000 in
theorem gX0_laySecondWindow_X2_bringToLevel : GoodIn wsX0_laySecondWindow (wsV RX0 73 RX2 yX2_bringToLevel wsX2_bringToLevel) := goodIn_app (goodIn_of _ (by decide +kernel)) ggX0_laySecondWindow_X2_bringToLevel
theorem dX0_laySecondWindow_0 : decode cX0_laySecondWindow 0 = .ok (.aload_n 0, 1) := by decide +kernel
theorem dX0_laySecondWindow_1 : decode cX0_laySecondWindow 1 = .ok (.getfield 18, 3) := by decide +kernel
theorem dX0_laySecondWindow_4 : decode cX0_laySecondWindow 4 = .ok (.iload_n 1, 1) := by decide +kernel
theorem dX0_laySecondWindow_5 : decode cX0_laySecondWindow 5 = .ok (.aload_n 0, 1) := by decide +kernel
theorem dX0_laySecondWindow_6 : decode cX0_laySecondWindow 6 = .ok (.getfield 77, 3) := by decide +kernel
theorem dX0_laySecondWindow_9 : decode cX0_laySecondWindow 9 = .ok (.aload_n 0, 1) := by decide +kernel
theorem dX0_laySecondWindow_10 : decode cX0_laySecondWindow 10 = .ok (.getfield 12, 3) := by decide +kernel
theorem dX0_laySecondWindow_13 : decode cX0_laySecondWindow 13 = .ok (.getfield 88, 3) := by decide +kernel
theorem dX0_laySecondWindow_16 : decode cX0_laySecondWindow 16 = .ok (.invokevirtual 81, 3) := by decide +kernel
theorem dX0_laySecondWindow_19 : decode cX0_laySecondWindow 19 = .ok (.aload_n 0, 1) := by decide +kernel
theorem dX0_laySecondWindow_20 : decode cX0_laySecondWindow 20 = .ok (.getfield 12, 3) := by decide +kernel
theorem dX0_laySecondWindow_23 : decode cX0_laySecondWindow 23 = .ok (.aload_n 0, 1) := by decide +kernel
theorem dX0_laySecondWindow_24 : decode cX0_laySecondWindow 24 = .ok (.getfield 12, 3) := by decide +kernel
theorem dX0_laySecondWindow_27 : decode cX0_laySecondWindow 27 = .ok (.getfield 88, 3) := by decide +kernel
theorem dX0_laySecondWindow_30 : decode cX0_laySecondWindow 30 = .ok (.aload_n 0, 1) := by decide +kernel
theorem dX0_laySecondWindow_31 : decode cX0_laySecondWindow 31 = .ok (.getfield 26, 3) := by decide +kernel
theorem dX0_laySecondWindow_34 : decode cX0_laySecondWindow 34 = .ok (.iconst 1, 1) := by decide +kernel
theorem dX0_laySecondWindow_35 : decode cX0_laySecondWindow 35 = .ok (.invokevirtual 49, 3) := by decide +kernel
theorem dX0_laySecondWindow_38 : decode cX0_laySecondWindow 38 = .ok (.invokevirtual 73, 3) := by decide +kernel
theorem dX0_laySecondWindow_41 : decode cX0_laySecondWindow 41 = .ok (.return_, 1) := by decide +kernel
set_option maxRecDepth 20000 in
theorem ggX0_laySecondQuery_X4_copyQuery : GoodIn wsX0_laySecondQuery wsX4_copyQuery := goodIn_r _ [9, 10, 11, 12, 8, 13, 14, 15, 16, 17, 18, 19, 20, 21, 22, 23, 24, 75, 76, 77] (by decide +kernel) (by decide +kernel)
set_option maxRecDepth 20000 in
theorem gX0_laySecondQuery_X4_copyQuery : GoodIn wsX0_laySecondQuery (wsV RX0 69 RX4 yX4_copyQuery wsX4_copyQuery) := goodIn_app (goodIn_of _ (by decide +kernel)) ggX0_laySecondQuery_X4_copyQuery
set_option maxRecDepth 20000 in
theorem ggX0_laySecondQuery_X7_valueOf : GoodIn wsX0_laySecondQuery wsX7_valueOf := goodIn_r _ [29, 30, 78] (by decide +kernel) (by decide +kernel)
set_option maxRecDepth 20000 in
theorem gX0_laySecondQuery_X7_valueOf : GoodIn wsX0_laySecondQuery (wsV RX0 49 RX7 yX7_valueOf wsX7_valueOf) := goodIn_app (goodIn_of _ (by decide +kernel)) ggX0_laySecondQuery_X7_valueOf
set_option maxRecDepth 20000 in
theorem ggX0_laySecondQuery_X2_bringToLevel : GoodIn wsX0_laySecondQuery wsX2_bringToLevel := goodIn_r _ [35, 36, 37, 38, 39, 34, 40, 41, 42, 43, 44, 45, 46, 47, 48, 49, 50, 51, 52, 53, 54, 55, 56, 57, 58, 59, 65, 66, 67, 68, 69, 70, 71, 72, 73, 74] (by decide +kernel) (by decide +kernel)
set_option maxRecDepth 20000 in
theorem gX0_laySecondQuery_X2_bringToLevel : GoodIn wsX0_laySecondQuery (wsV RX0 73 RX2 yX2_bringToLevel wsX2_bringToLevel) := goodIn_app (goodIn_of _ (by decide +kernel)) ggX0_laySecondQuery_X2_bringToLevel
theorem dX0_laySecondQuery_0 : decode cX0_laySecondQuery 0 = .ok (.aload_n 0, 1) := by decide +kernel
theorem dX0_laySecondQuery_1 : decode cX0_laySecondQuery 1 = .ok (.getfield 22, 3) := by decide +kernel
theorem dX0_laySecondQuery_4 : decode cX0_laySecondQuery 4 = .ok (.iload_n 1, 1) := by decide +kernel
theorem dX0_laySecondQuery_5 : decode cX0_laySecondQuery 5 = .ok (.aload_n 0, 1) := by decide +kernel
theorem dX0_laySecondQuery_6 : decode cX0_laySecondQuery 6 = .ok (.getfield 12, 3) := by decide +kernel
theorem dX0_laySecondQuery_9 : decode cX0_laySecondQuery 9 = .ok (.getfield 88, 3) := by decide +kernel
theorem dX0_laySecondQuery_12 : decode cX0_laySecondQuery 12 = .ok (.invokevirtual 69, 3) := by decide +kernel
theorem dX0_laySecondQuery_15 : decode cX0_laySecondQuery 15 = .ok (.aload_n 0, 1) := by decide +kernel
theorem dX0_laySecondQuery_16 : decode cX0_laySecondQuery 16 = .ok (.getfield 12, 3) := by decide +kernel
theorem dX0_laySecondQuery_19 : decode cX0_laySecondQuery 19 = .ok (.aload_n 0, 1) := by decide +kernel
theorem dX0_laySecondQuery_20 : decode cX0_laySecondQuery 20 = .ok (.getfield 12, 3) := by decide +kernel
theorem dX0_laySecondQuery_23 : decode cX0_laySecondQuery 23 = .ok (.getfield 88, 3) := by decide +kernel
theorem dX0_laySecondQuery_26 : decode cX0_laySecondQuery 26 = .ok (.aload_n 0, 1) := by decide +kernel
theorem dX0_laySecondQuery_27 : decode cX0_laySecondQuery 27 = .ok (.getfield 26, 3) := by decide +kernel
theorem dX0_laySecondQuery_30 : decode cX0_laySecondQuery 30 = .ok (.iconst 1, 1) := by decide +kernel
theorem dX0_laySecondQuery_31 : decode cX0_laySecondQuery 31 = .ok (.invokevirtual 49, 3) := by decide +kernel
theorem dX0_laySecondQuery_34 : decode cX0_laySecondQuery 34 = .ok (.invokevirtual 73, 3) := by decide +kernel
theorem dX0_laySecondQuery_37 : decode cX0_laySecondQuery 37 = .ok (.return_, 1) := by decide +kernel
theorem dX1_init_0 : decode cX1_init 0 = .ok (.aload_n 0, 1) := by decide +kernel
theorem dX1_init_1 : decode cX1_init 1 = .ok (.invokespecial 3, 3) := by decide +kernel
theorem dX1_init_4 : decode cX1_init 4 = .ok (.aload_n 0, 1) := by decide +kernel
theorem dX1_init_5 : decode cX1_init 5 = .ok (.bipush 9, 2) := by decide +kernel
theorem dX1_init_7 : decode cX1_init 7 = .ok (.newarray .int, 2) := by decide +kernel
theorem dX1_init_9 : decode cX1_init 9 = .ok (.putfield 11, 3) := by decide +kernel
theorem dX1_init_12 : decode cX1_init 12 = .ok (.aload_n 0, 1) := by decide +kernel
theorem dX1_init_13 : decode cX1_init 13 = .ok (.sipush 160, 3) := by decide +kernel
theorem dX1_init_16 : decode cX1_init 16 = .ok (.newarray .int, 2) := by decide +kernel
theorem dX1_init_18 : decode cX1_init 18 = .ok (.putfield 15, 3) := by decide +kernel
theorem dX1_init_21 : decode cX1_init 21 = .ok (.aload_n 0, 1) := by decide +kernel
theorem dX1_init_22 : decode cX1_init 22 = .ok (.sipush 160, 3) := by decide +kernel
theorem dX1_init_25 : decode cX1_init 25 = .ok (.newarray .int, 2) := by decide +kernel
theorem dX1_init_27 : decode cX1_init 27 = .ok (.putfield 18, 3) := by decide +kernel
theorem dX1_init_30 : decode cX1_init 30 = .ok (.aload_n 0, 1) := by decide +kernel
theorem dX1_init_31 : decode cX1_init 31 = .ok (.sipush 160, 3) := by decide +kernel
theorem dX1_init_34 : decode cX1_init 34 = .ok (.newarray .int, 2) := by decide +kernel
theorem dX1_init_36 : decode cX1_init 36 = .ok (.putfield 21, 3) := by decide +kernel
theorem dX1_init_39 : decode cX1_init 39 = .ok (.aload_n 0, 1) := by decide +kernel
theorem dX1_init_40 : decode cX1_init 40 = .ok (.sipush 160, 3) := by decide +kernel
theorem dX1_init_43 : decode cX1_init 43 = .ok (.newarray .boolean, 2) := by decide +kernel
theorem dX1_init_45 : decode cX1_init 45 = .ok (.putfield 24, 3) := by decide +kernel
theorem dX1_init_48 : decode cX1_init 48 = .ok (.aload_n 0, 1) := by decide +kernel
theorem dX1_init_49 : decode cX1_init 49 = .ok (.aload_n 1, 1) := by decide +kernel
theorem dX1_init_50 : decode cX1_init 50 = .ok (.putfield 28, 3) := by decide +kernel
theorem dX1_init_53 : decode cX1_init 53 = .ok (.aload_n 0, 1) := by decide +kernel
theorem dX1_init_54 : decode cX1_init 54 = .ok (.aload_n 1, 1) := by decide +kernel
theorem dX1_init_55 : decode cX1_init 55 = .ok (.getfield 32, 3) := by decide +kernel
theorem dX1_init_58 : decode cX1_init 58 = .ok (.putfield 38, 3) := by decide +kernel
theorem dX1_init_61 : decode cX1_init 61 = .ok (.aload_n 0, 1) := by decide +kernel
theorem dX1_init_62 : decode cX1_init 62 = .ok (.aload_n 1, 1) := by decide +kernel
theorem dX1_init_63 : decode cX1_init 63 = .ok (.getfield 39, 3) := by decide +kernel
theorem dX1_init_66 : decode cX1_init 66 = .ok (.putfield 43, 3) := by decide +kernel
theorem dX1_init_69 : decode cX1_init 69 = .ok (.return_, 1) := by decide +kernel
set_option maxRecDepth 20000 in
theorem ggX1_runSearch_X7_valueOf : GoodIn wsX1_runSearch wsX7_valueOf := goodIn_r _ [13, 14, 182] (by decide +kernel) (by decide +kernel)
set_option maxRecDepth 20000 in
theorem gX1_runSearch_X7_valueOf : GoodIn wsX1_runSearch (wsV RX1 49 RX7 yX7_valueOf wsX7_valueOf) := goodIn_app (goodIn_of _ (by decide +kernel)) ggX1_runSearch_X7_valueOf
set_option maxRecDepth 20000 in
theorem ggX1_runSearch_X0_openQuery : GoodIn wsX1_runSearch wsX0_openQuery := goodIn_r _ [19, 20, 21, 22, 23, 24, 25, 26, 27, 28, 29, 30, 31, 32, 33, 34, 35, 36, 37, 18, 38, 39, 40, 10, 11, 12, 13, 14, 41, 42, 43, 44, 45, 46, 47, 48, 49, 50, 51, 52, 53, 54, 55, 56, 57, 58, 59, 60, 61, 62, 63, 64, 65, 66, 67, 68, 69, 70, 71, 72, 73, 74, 75, 76, 77, 78, 79, 80, 81, 82, 83, 84, 85, 174, 175, 176, 177, 178, 183, 184, 185, 186, 187, 188, 189, 190, 191, 192, 193, 194, 195, 182] (by decide +kernel) (by decide +kernel)
set_option maxRecDepth 20000 in
theorem gX1_runSearch_X0_openQuery : GoodIn wsX1_runSearch (wsV RX1 55 RX0 yX0_openQuery wsX0_openQuery) := goodIn_app (goodIn_of _ (by decide +kernel)) ggX1_runSearch_X0_openQuery
set_option maxRecDepth 20000 in
theorem ggX1_runSearch_X4_lengthOf : GoodIn wsX1_runSearch wsX4_lengthOf := goodIn_r _ [28, 29, 30, 31, 32, 27, 33, 34, 193, 194, 195] (by decide +kernel) (by decide +kernel)
set_option maxRecDepth 20000 in
theorem gX1_runSearch_X4_lengthOf : GoodIn wsX1_runSearch (wsV RX1 65 RX4 yX4_lengthOf wsX4_lengthOf) := goodIn_app (goodIn_of _ (by decide +kernel)) ggX1_runSearch_X4_lengthOf
set_option maxRecDepth 20000 in
theorem ggX1_runSearch_X6_hasWindow : GoodIn wsX1_runSearch wsX6_hasWindow := goodIn_r _ [91, 92, 93, 94, 95, 90, 96, 97, 98, 99, 100, 101, 102, 179, 180, 181] (by decide +kernel) (by decide +kernel)
set_option maxRecDepth 20000 in
theorem gX1_runSearch_X6_hasWindow : GoodIn wsX1_runSearch (wsV RX1 70 RX6 yX6_hasWindow wsX6_hasWindow) := goodIn_app (goodIn_of _ (by decide +kernel)) ggX1_runSearch_X6_hasWindow
set_option maxRecDepth 20000 in
theorem ggX1_runSearch_X0_laySecondWindow : GoodIn wsX1_runSearch wsX0_laySecondWindow := goodIn_r _ [106, 107, 39, 21, 108, 23, 109, 110, 111, 90, 112, 97, 98, 99, 100, 92, 101, 102, 40, 10, 11, 12, 13, 14, 66, 67, 68, 44, 69, 53, 70, 71, 72, 73, 74, 75, 76, 77, 78, 79, 80, 81, 82, 83, 84, 85, 46, 47, 48, 49, 50, 51, 52, 174, 175, 176, 177, 178, 183, 184, 185, 186, 187, 188, 189, 190, 191, 192, 179, 180, 181, 182] (by decide +kernel) (by decide +kernel)
set_option maxRecDepth 20000 in
theorem gX1_runSearch_X0_laySecondWindow : GoodIn wsX1_runSearch (wsV RX1 74 RX0 yX0_laySecondWindow wsX0_laySecondWindow) := goodIn_app (goodIn_of _ (by decide +kernel)) ggX1_runSearch_X0_laySecondWindow
set_option maxRecDepth 20000 in
theorem ggX1_runSearch_X2_lookAt : GoodIn wsX1_runSearch wsX2_lookAt := goodIn_r _ [116, 117, 118, 119, 120, 121, 122, 123, 44, 124, 53, 125, 126, 127, 128, 55, 129, 130, 131, 132, 133, 134, 135, 136, 54, 50, 51, 48, 52, 46, 47, 49, 137, 138, 139, 140, 141, 142, 143, 144, 145, 146, 147, 148, 149, 150, 151, 152, 153, 154, 183, 184, 185, 186, 187, 188, 189, 190, 191, 192] (by decide +kernel) (by decide +kernel)
set_option maxRecDepth 20000 in
theorem gX1_runSearch_X2_lookAt : GoodIn wsX1_runSearch (wsV RX1 82 RX2 yX2_lookAt wsX2_lookAt) := goodIn_app (goodIn_of _ (by decide +kernel)) ggX1_runSearch_X2_lookAt
set_option maxRecDepth 20000 in
theorem ggX1_runSearch_X1_addToTally : GoodIn wsX1_runSearch wsX1_addToTally := goodIn_r _ [159, 1, 3, 8, 160, 161, 163, 164, 165, 166, 167, 168, 169, 170, 171, 172, 173, 174, 175, 176, 177, 178, 183, 184, 185, 186, 187, 188, 189, 190, 191, 192] (by decide +kernel) (by decide +kernel)
set_option maxRecDepth 20000 in
theorem gX1_runSearch_X1_addToTally : GoodIn wsX1_runSearch (wsV RX1 87 RX1 yX1_addToTally wsX1_addToTally) := goodIn_app (goodIn_of _ (by decide +kernel)) ggX1_runSearch_X1_addToTally
set_option maxRecDepth 20000 in
theorem ggX1_runSearch_X2_laidDistance : GoodIn wsX1_runSearch wsX2_laidDistance := goodIn_r _ [154, 146, 53, 183, 184, 185, 186, 187, 188, 189, 190, 191, 192] (by decide +kernel) (by decide +kernel)
set_option maxRecDepth 20000 in
theorem gX1_runSearch_X2_laidDistance : GoodIn wsX1_runSearch (wsV RX1 90 RX2 yX2_laidDistance wsX2_laidDistance) := goodIn_app (goodIn_of _ (by decide +kernel)) ggX1_runSearch_X2_laidDistance
theorem dX1_runSearch_0 : decode cX1_runSearch 0 = .ok (.iconst 0, 1) := by decide +kernel
theorem dX1_runSearch_1 : decode cX1_runSearch 1 = .ok (.istore_n 2, 1) := by decide +kernel
theorem dX1_runSearch_2 : decode cX1_runSearch 2 = .ok (.iload_n 2, 1) := by decide +kernel
theorem dX1_runSearch_3 : decode cX1_runSearch 3 = .ok (.bipush 9, 2) := by decide +kernel
theorem dX1_runSearch_5 : decode cX1_runSearch 5 = .ok (.if_icmp .ge 16, 3) := by decide +kernel
theorem dX1_runSearch_8 : decode cX1_runSearch 8 = .ok (.aload_n 0, 1) := by decide +kernel
theorem dX1_runSearch_9 : decode cX1_runSearch 9 = .ok (.getfield 11, 3) := by decide +kernel
theorem dX1_runSearch_12 : decode cX1_runSearch 12 = .ok (.iload_n 2, 1) := by decide +kernel
theorem dX1_runSearch_13 : decode cX1_runSearch 13 = .ok (.iconst 0, 1) := by decide +kernel
theorem dX1_runSearch_14 : decode cX1_runSearch 14 = .ok (.iastore, 1) := by decide +kernel
theorem dX1_runSearch_15 : decode cX1_runSearch 15 = .ok (.iinc 2 1, 3) := by decide +kernel
theorem dX1_runSearch_18 : decode cX1_runSearch 18 = .ok (.goto (-16), 3) := by decide +kernel
theorem dX1_runSearch_21 : decode cX1_runSearch 21 = .ok (.ldc 44, 2) := by decide +kernel
theorem dX1_runSearch_23 : decode cX1_runSearch 23 = .ok (.istore_n 2, 1) := by decide +kernel
theorem dX1_runSearch_24 : decode cX1_runSearch 24 = .ok (.aload_n 0, 1) := by decide +kernel
theorem dX1_runSearch_25 : decode cX1_runSearch 25 = .ok (.getfield 28, 3) := by decide +kernel
theorem dX1_runSearch_28 : decode cX1_runSearch 28 = .ok (.iload_n 1, 1) := by decide +kernel
theorem dX1_runSearch_29 : decode cX1_runSearch 29 = .ok (.aload_n 0, 1) := by decide +kernel
theorem dX1_runSearch_30 : decode cX1_runSearch 30 = .ok (.getfield 28, 3) := by decide +kernel
theorem dX1_runSearch_33 : decode cX1_runSearch 33 = .ok (.getfield 45, 3) := by decide +kernel
theorem dX1_runSearch_36 : decode cX1_runSearch 36 = .ok (.iconst 0, 1) := by decide +kernel
theorem dX1_runSearch_37 : decode cX1_runSearch 37 = .ok (.invokevirtual 49, 3) := by decide +kernel
theorem dX1_runSearch_40 : decode cX1_runSearch 40 = .ok (.invokevirtual 55, 3) := by decide +kernel
theorem dX1_runSearch_43 : decode cX1_runSearch 43 = .ok (.iconst 0, 1) := by decide +kernel
theorem dX1_runSearch_44 : decode cX1_runSearch 44 = .ok (.istore_n 3, 1) := by decide +kernel
theorem dX1_runSearch_45 : decode cX1_runSearch 45 = .ok (.iload_n 3, 1) := by decide +kernel
theorem dX1_runSearch_46 : decode cX1_runSearch 46 = .ok (.aload_n 0, 1) := by decide +kernel
theorem dX1_runSearch_47 : decode cX1_runSearch 47 = .ok (.getfield 38, 3) := by decide +kernel
theorem dX1_runSearch_50 : decode cX1_runSearch 50 = .ok (.getfield 59, 3) := by decide +kernel
theorem dX1_runSearch_53 : decode cX1_runSearch 53 = .ok (.if_icmp .ge 71, 3) := by decide +kernel
theorem dX1_runSearch_56 : decode cX1_runSearch 56 = .ok (.aload_n 0, 1) := by decide +kernel
theorem dX1_runSearch_57 : decode cX1_runSearch 57 = .ok (.getfield 38, 3) := by decide +kernel
theorem dX1_runSearch_60 : decode cX1_runSearch 60 = .ok (.iload_n 3, 1) := by decide +kernel
theorem dX1_runSearch_61 : decode cX1_runSearch 61 = .ok (.aload_n 0, 1) := by decide +kernel
theorem dX1_runSearch_62 : decode cX1_runSearch 62 = .ok (.getfield 43, 3) := by decide +kernel
theorem dX1_runSearch_65 : decode cX1_runSearch 65 = .ok (.iload_n 1, 1) := by decide +kernel
theorem dX1_runSearch_66 : decode cX1_runSearch 66 = .ok (.invokevirtual 65, 3) := by decide +kernel
theorem dX1_runSearch_69 : decode cX1_runSearch 69 = .ok (.invokevirtual 70, 3) := by decide +kernel
theorem dX1_runSearch_72 : decode cX1_runSearch 72 = .ok (.ifCond .eq 46, 3) := by decide +kernel
theorem dX1_runSearch_75 : decode cX1_runSearch 75 = .ok (.aload_n 0, 1) := by decide +kernel
theorem dX1_runSearch_76 : decode cX1_runSearch 76 = .ok (.getfield 28, 3) := by decide +kernel
theorem dX1_runSearch_79 : decode cX1_runSearch 79 = .ok (.iload_n 3, 1) := by decide +kernel
theorem dX1_runSearch_80 : decode cX1_runSearch 80 = .ok (.invokevirtual 74, 3) := by decide +kernel
theorem dX1_runSearch_83 : decode cX1_runSearch 83 = .ok (.aload_n 0, 1) := by decide +kernel
theorem dX1_runSearch_84 : decode cX1_runSearch 84 = .ok (.getfield 28, 3) := by decide +kernel
theorem dX1_runSearch_87 : decode cX1_runSearch 87 = .ok (.getfield 78, 3) := by decide +kernel
theorem dX1_runSearch_90 : decode cX1_runSearch 90 = .ok (.iload_n 2, 1) := by decide +kernel
theorem dX1_runSearch_91 : decode cX1_runSearch 91 = .ok (.invokevirtual 82, 3) := by decide +kernel
theorem dX1_runSearch_94 : decode cX1_runSearch 94 = .ok (.istore 4, 2) := by decide +kernel
theorem dX1_runSearch_96 : decode cX1_runSearch 96 = .ok (.aload_n 0, 1) := by decide +kernel
theorem dX1_runSearch_97 : decode cX1_runSearch 97 = .ok (.iload 4, 2) := by decide +kernel
theorem dX1_runSearch_99 : decode cX1_runSearch 99 = .ok (.invokevirtual 87, 3) := by decide +kernel
theorem dX1_runSearch_102 : decode cX1_runSearch 102 = .ok (.iload 4, 2) := by decide +kernel
theorem dX1_runSearch_104 : decode cX1_runSearch 104 = .ok (.ifCond .ne 14, 3) := by decide +kernel
theorem dX1_runSearch_107 : decode cX1_runSearch 107 = .ok (.aload_n 0, 1) := by decide +kernel
theorem dX1_runSearch_108 : decode cX1_runSearch 108 = .ok (.getfield 28, 3) := by decide +kernel
theorem dX1_runSearch_111 : decode cX1_runSearch 111 = .ok (.getfield 78, 3) := by decide +kernel
theorem dX1_runSearch_114 : decode cX1_runSearch 114 = .ok (.invokevirtual 90, 3) := by decide +kernel
theorem dX1_runSearch_117 : decode cX1_runSearch 117 = .ok (.istore_n 2, 1) := by decide +kernel
theorem dX1_runSearch_118 : decode cX1_runSearch 118 = .ok (.iinc 3 1, 3) := by decide +kernel
theorem dX1_runSearch_121 : decode cX1_runSearch 121 = .ok (.goto (-76), 3) := by decide +kernel
theorem dX1_runSearch_124 : decode cX1_runSearch 124 = .ok (.return_, 1) := by decide +kernel
theorem dX1_addToTally_0 : decode cX1_addToTally 0 = .ok (.aload_n 0, 1) := by decide +kernel
theorem dX1_addToTally_1 : decode cX1_addToTally 1 = .ok (.getfield 11, 3) := by decide +kernel
theorem dX1_addToTally_4 : decode cX1_addToTally 4 = .ok (.iconst 0, 1) := by decide +kernel
theorem dX1_addToTally_5 : decode cX1_addToTally 5 = .ok (.dup2, 1) := by decide +kernel
theorem dX1_addToTally_6 : decode cX1_addToTally 6 = .ok (.iaload, 1) := by decide +kernel
theorem dX1_addToTally_7 : decode cX1_addToTally 7 = .ok (.iconst 1, 1) := by decide +kernel
theorem dX1_addToTally_8 : decode cX1_addToTally 8 = .ok (.iadd, 1) := by decide +kernel
theorem dX1_addToTally_9 : decode cX1_addToTally 9 = .ok (.iastore, 1) := by decide +kernel
theorem dX1_addToTally_10 : decode cX1_addToTally 10 = .ok (.aload_n 0, 1) := by decide +kernel
theorem dX1_addToTally_11 : decode cX1_addToTally 11 = .ok (.getfield 11, 3) := by decide +kernel
theorem dX1_addToTally_14 : decode cX1_addToTally 14 = .ok (.bipush 6, 2) := by decide +kernel
theorem dX1_addToTally_16 : decode cX1_addToTally 16 = .ok (.dup2, 1) := by decide +kernel
theorem dX1_addToTally_17 : decode cX1_addToTally 17 = .ok (.iaload, 1) := by decide +kernel
theorem dX1_addToTally_18 : decode cX1_addToTally 18 = .ok (.aload_n 0, 1) := by decide +kernel
theorem dX1_addToTally_19 : decode cX1_addToTally 19 = .ok (.getfield 28, 3) := by decide +kernel
theorem dX1_addToTally_22 : decode cX1_addToTally 22 = .ok (.getfield 78, 3) := by decide +kernel
theorem dX1_addToTally_25 : decode cX1_addToTally 25 = .ok (.getfield 94, 3) := by decide +kernel
theorem dX1_addToTally_28 : decode cX1_addToTally 28 = .ok (.iadd, 1) := by decide +kernel
theorem dX1_addToTally_29 : decode cX1_addToTally 29 = .ok (.iastore, 1) := by decide +kernel
theorem dX1_addToTally_30 : decode cX1_addToTally 30 = .ok (.iload_n 1, 1) := by decide +kernel
theorem dX1_addToTally_31 : decode cX1_addToTally 31 = .ok (.ifCond .ne 17, 3) := by decide +kernel
theorem dX1_addToTally_34 : decode cX1_addToTally 34 = .ok (.aload_n 0, 1) := by decide +kernel
theorem dX1_addToTally_35 : decode cX1_addToTally 35 = .ok (.getfield 11, 3) := by decide +kernel
theorem dX1_addToTally_38 : decode cX1_addToTally 38 = .ok (.bipush 7, 2) := by decide +kernel
theorem dX1_addToTally_40 : decode cX1_addToTally 40 = .ok (.dup2, 1) := by decide +kernel
theorem dX1_addToTally_41 : decode cX1_addToTally 41 = .ok (.iaload, 1) := by decide +kernel
theorem dX1_addToTally_42 : decode cX1_addToTally 42 = .ok (.iconst 1, 1) := by decide +kernel
theorem dX1_addToTally_43 : decode cX1_addToTally 43 = .ok (.iadd, 1) := by decide +kernel
theorem dX1_addToTally_44 : decode cX1_addToTally 44 = .ok (.iastore, 1) := by decide +kernel
theorem dX1_addToTally_45 : decode cX1_addToTally 45 = .ok (.goto 23, 3) := by decide +kernel
theorem dX1_addToTally_48 : decode cX1_addToTally 48 = .ok (.iload_n 1, 1) := by decide +kernel
theorem dX1_addToTally_49 : decode cX1_addToTally 49 = .ok (.iconst 1, 1) := by decide +kernel
theorem dX1_addToTally_50 : decode cX1_addToTally 50 = .ok (.if_icmp .lt 18, 3) := by decide +kernel
theorem dX1_addToTally_53 : decode cX1_addToTally 53 = .ok (.iload_n 1, 1) := by decide +kernel
theorem dX1_addToTally_54 : decode cX1_addToTally 54 = .ok (.iconst 5, 1) := by decide +kernel
theorem dX1_addToTally_55 : decode cX1_addToTally 55 = .ok (.if_icmp .gt 13, 3) := by decide +kernel
theorem dX1_addToTally_58 : decode cX1_addToTally 58 = .ok (.aload_n 0, 1) := by decide +kernel
theorem dX1_addToTally_59 : decode cX1_addToTally 59 = .ok (.getfield 11, 3) := by decide +kernel
theorem dX1_addToTally_62 : decode cX1_addToTally 62 = .ok (.iload_n 1, 1) := by decide +kernel
theorem dX1_addToTally_63 : decode cX1_addToTally 63 = .ok (.dup2, 1) := by decide +kernel
theorem dX1_addToTally_64 : decode cX1_addToTally 64 = .ok (.iaload, 1) := by decide +kernel
theorem dX1_addToTally_65 : decode cX1_addToTally 65 = .ok (.iconst 1, 1) := by decide +kernel
theorem dX1_addToTally_66 : decode cX1_addToTally 66 = .ok (.iadd, 1) := by decide +kernel
theorem dX1_addToTally_67 : decode cX1_addToTally 67 = .ok (.iastore, 1) := by decide +kernel
theorem dX1_addToTally_68 : decode cX1_addToTally 68 = .ok (.iload_n 1, 1) := by decide +kernel
theorem dX1_addToTally_69 : decode cX1_addToTally 69 = .ok (.iconst 4, 1) := by decide +kernel
theorem dX1_addToTally_70 : decode cX1_addToTally 70 = .ok (.if_icmp .ne 25, 3) := by decide +kernel
theorem dX1_addToTally_73 : decode cX1_addToTally 73 = .ok (.aload_n 0, 1) := by decide +kernel
theorem dX1_addToTally_74 : decode cX1_addToTally 74 = .ok (.getfield 11, 3) := by decide +kernel
theorem dX1_addToTally_77 : decode cX1_addToTally 77 = .ok (.bipush 8, 2) := by decide +kernel
theorem dX1_addToTally_79 : decode cX1_addToTally 79 = .ok (.dup2, 1) := by decide +kernel
theorem dX1_addToTally_80 : decode cX1_addToTally 80 = .ok (.iaload, 1) := by decide +kernel
theorem dX1_addToTally_81 : decode cX1_addToTally 81 = .ok (.aload_n 0, 1) := by decide +kernel
theorem dX1_addToTally_82 : decode cX1_addToTally 82 = .ok (.getfield 28, 3) := by decide +kernel
theorem dX1_addToTally_85 : decode cX1_addToTally 85 = .ok (.getfield 78, 3) := by decide +kernel
theorem dX1_addToTally_88 : decode cX1_addToTally 88 = .ok (.getfield 97, 3) := by decide +kernel
theorem dX1_addToTally_91 : decode cX1_addToTally 91 = .ok (.iconst 1, 1) := by decide +kernel
theorem dX1_addToTally_92 : decode cX1_addToTally 92 = .ok (.iadd, 1) := by decide +kernel
theorem dX1_addToTally_93 : decode cX1_addToTally 93 = .ok (.iadd, 1) := by decide +kernel
theorem dX1_addToTally_94 : decode cX1_addToTally 94 = .ok (.iastore, 1) := by decide +kernel
theorem dX1_addToTally_95 : decode cX1_addToTally 95 = .ok (.return_, 1) := by decide +kernel
set_option maxRecDepth 20000 in
theorem ggX1_findBest_X0_openQuery : GoodIn wsX1_findBest wsX0_openQuery := goodIn_r _ [13, 14, 15, 16, 17, 18, 19, 20, 21, 22, 23, 24, 25, 26, 27, 28, 29, 30, 31, 12, 32, 33, 34, 35, 36, 37, 38, 39, 40, 41, 42, 43, 44, 45, 46, 47, 48, 49, 50, 51, 52, 53, 54, 55, 56, 57, 58, 59, 60, 61, 62, 63, 64, 65, 66, 67, 68, 69, 70, 71, 72, 73, 74, 75, 76, 77, 78, 79, 80, 81, 82, 83, 84, 161, 162, 163, 164, 165, 166, 167, 168, 169, 170, 171, 172, 173, 174, 175, 176, 177, 178, 179] (by decide +kernel) (by decide +kernel)
set_option maxRecDepth 20000 in
theorem gX1_findBest_X0_openQuery : GoodIn wsX1_findBest (wsV RX1 55 RX0 yX0_openQuery wsX0_openQuery) := goodIn_app (goodIn_of _ (by decide +kernel)) ggX1_findBest_X0_openQuery
set_option maxRecDepth 20000 in
theorem ggX1_findBest_X4_lengthOf : GoodIn wsX1_findBest wsX4_lengthOf := goodIn_r _ [22, 23, 24, 25, 26, 21, 27, 28, 176, 177, 178] (by decide +kernel) (by decide +kernel)
set_option maxRecDepth 20000 in
theorem gX1_findBest_X4_lengthOf : GoodIn wsX1_findBest (wsV RX1 65 RX4 yX4_lengthOf wsX4_lengthOf) := goodIn_app (goodIn_of _ (by decide +kernel)) ggX1_findBest_X4_lengthOf
set_option maxRecDepth 20000 in
theorem ggX1_findBest_X6_hasWindow : GoodIn wsX1_findBest wsX6_hasWindow := goodIn_r _ [90, 91, 92, 93, 94, 89, 95, 96, 97, 98, 99, 100, 101, 158, 159, 160] (by decide +kernel) (by decide +kernel)
set_option maxRecDepth 20000 in
theorem gX1_findBest_X6_hasWindow : GoodIn wsX1_findBest (wsV RX1 70 RX6 yX6_hasWindow wsX6_hasWindow) := goodIn_app (goodIn_of _ (by decide +kernel)) ggX1_findBest_X6_hasWindow
set_option maxRecDepth 20000 in
theorem ggX1_findBest_X0_laySecondWindow : GoodIn wsX1_findBest wsX0_laySecondWindow := goodIn_r _ [105, 106, 33, 15, 107, 17, 108, 109, 110, 89, 111, 96, 97, 98, 99, 91, 100, 101, 34, 35, 36, 37, 38, 39, 65, 66, 67, 43, 68, 52, 69, 70, 71, 72, 73, 74, 75, 76, 77, 78, 79, 80, 81, 82, 83, 84, 45, 46, 47, 48, 49, 50, 51, 161, 162, 163, 164, 165, 166, 167, 168, 169, 170, 171, 172, 173, 174, 175, 158, 159, 160, 179] (by decide +kernel) (by decide +kernel)
set_option maxRecDepth 20000 in
theorem gX1_findBest_X0_laySecondWindow : GoodIn wsX1_findBest (wsV RX1 74 RX0 yX0_laySecondWindow wsX0_laySecondWindow) := goodIn_app (goodIn_of _ (by decide +kernel)) ggX1_findBest_X0_laySecondWindow
set_option maxRecDepth 20000 in
theorem ggX1_findBest_X2_isLess : GoodIn wsX1_findBest wsX2_isLess := goodIn_r _ [115, 116, 117, 118, 119, 43, 120, 52, 121, 122, 123, 124, 125, 126, 54, 127, 128, 129, 130, 131, 132, 133, 134, 135, 53, 49, 50, 47, 51, 45, 46, 48, 136, 137, 138, 139, 140, 141, 142, 143, 144, 145, 166, 167, 168, 169, 170, 171, 172, 173, 174, 175] (by decide +kernel) (by decide +kernel)
set_option maxRecDepth 20000 in
theorem gX1_findBest_X2_isLess : GoodIn wsX1_findBest (wsV RX1 106 RX2 yX2_isLess wsX2_isLess) := goodIn_app (goodIn_of _ (by decide +kernel)) ggX1_findBest_X2_isLess
set_option maxRecDepth 20000 in
theorem ggX1_findBest_X2_laidDistance : GoodIn wsX1_findBest wsX2_laidDistance := goodIn_r _ [145, 137, 52, 166, 167, 168, 169, 170, 171, 172, 173, 174, 175] (by decide +kernel) (by decide +kernel)
set_option maxRecDepth 20000 in
theorem gX1_findBest_X2_laidDistance : GoodIn wsX1_findBest (wsV RX1 90 RX2 yX2_laidDistance wsX2_laidDistance) := goodIn_app (goodIn_of _ (by decide +kernel)) ggX1_findBest_X2_laidDistance
theorem dX1_findBest_0 : decode cX1_findBest 0 = .ok (.aload_n 0, 1) := by decide +kernel
theorem dX1_findBest_1 : decode cX1_findBest 1 = .ok (.bipush (-2), 2) := by decide +kernel
theorem dX1_findBest_3 : decode cX1_findBest 3 = .ok (.putfield 100, 3) := by decide +kernel
theorem dX1_findBest_6 : decode cX1_findBest 6 = .ok (.aload_n 0, 1) := by decide +kernel
theorem dX1_findBest_7 : decode cX1_findBest 7 = .ok (.bipush (-2), 2) := by decide +kernel
theorem dX1_findBest_9 : decode cX1_findBest 9 = .ok (.putfield 103, 3) := by decide +kernel
theorem dX1_findBest_12 : decode cX1_findBest 12 = .ok (.ldc 44, 2) := by decide +kernel
theorem dX1_findBest_14 : decode cX1_findBest 14 = .ok (.istore_n 3, 1) := by decide +kernel
theorem dX1_findBest_15 : decode cX1_findBest 15 = .ok (.aload_n 0, 1) := by decide +kernel
theorem dX1_findBest_16 : decode cX1_findBest 16 = .ok (.getfield 28, 3) := by decide +kernel
theorem dX1_findBest_19 : decode cX1_findBest 19 = .ok (.iload_n 1, 1) := by decide +kernel
theorem dX1_findBest_20 : decode cX1_findBest 20 = .ok (.iload_n 2, 1) := by decide +kernel
theorem dX1_findBest_21 : decode cX1_findBest 21 = .ok (.invokevirtual 55, 3) := by decide +kernel
theorem dX1_findBest_24 : decode cX1_findBest 24 = .ok (.iconst 0, 1) := by decide +kernel
theorem dX1_findBest_25 : decode cX1_findBest 25 = .ok (.istore 4, 2) := by decide +kernel
theorem dX1_findBest_27 : decode cX1_findBest 27 = .ok (.iload 4, 2) := by decide +kernel
theorem dX1_findBest_29 : decode cX1_findBest 29 = .ok (.aload_n 0, 1) := by decide +kernel
theorem dX1_findBest_30 : decode cX1_findBest 30 = .ok (.getfield 38, 3) := by decide +kernel
theorem dX1_findBest_33 : decode cX1_findBest 33 = .ok (.getfield 59, 3) := by decide +kernel
theorem dX1_findBest_36 : decode cX1_findBest 36 = .ok (.if_icmp .ge 74, 3) := by decide +kernel
theorem dX1_findBest_39 : decode cX1_findBest 39 = .ok (.aload_n 0, 1) := by decide +kernel
theorem dX1_findBest_40 : decode cX1_findBest 40 = .ok (.getfield 38, 3) := by decide +kernel
theorem dX1_findBest_43 : decode cX1_findBest 43 = .ok (.iload 4, 2) := by decide +kernel
theorem dX1_findBest_45 : decode cX1_findBest 45 = .ok (.aload_n 0, 1) := by decide +kernel
theorem dX1_findBest_46 : decode cX1_findBest 46 = .ok (.getfield 43, 3) := by decide +kernel
theorem dX1_findBest_49 : decode cX1_findBest 49 = .ok (.iload_n 1, 1) := by decide +kernel
theorem dX1_findBest_50 : decode cX1_findBest 50 = .ok (.invokevirtual 65, 3) := by decide +kernel
theorem dX1_findBest_53 : decode cX1_findBest 53 = .ok (.invokevirtual 70, 3) := by decide +kernel
theorem dX1_findBest_56 : decode cX1_findBest 56 = .ok (.ifCond .eq 48, 3) := by decide +kernel
theorem dX1_findBest_59 : decode cX1_findBest 59 = .ok (.aload_n 0, 1) := by decide +kernel
theorem dX1_findBest_60 : decode cX1_findBest 60 = .ok (.getfield 28, 3) := by decide +kernel
theorem dX1_findBest_63 : decode cX1_findBest 63 = .ok (.iload 4, 2) := by decide +kernel
theorem dX1_findBest_65 : decode cX1_findBest 65 = .ok (.invokevirtual 74, 3) := by decide +kernel
theorem dX1_findBest_68 : decode cX1_findBest 68 = .ok (.aload_n 0, 1) := by decide +kernel
theorem dX1_findBest_69 : decode cX1_findBest 69 = .ok (.getfield 28, 3) := by decide +kernel
theorem dX1_findBest_72 : decode cX1_findBest 72 = .ok (.getfield 78, 3) := by decide +kernel
theorem dX1_findBest_75 : decode cX1_findBest 75 = .ok (.iload_n 3, 1) := by decide +kernel
theorem dX1_findBest_76 : decode cX1_findBest 76 = .ok (.invokevirtual 106, 3) := by decide +kernel
theorem dX1_findBest_79 : decode cX1_findBest 79 = .ok (.ifCond .eq 25, 3) := by decide +kernel
theorem dX1_findBest_82 : decode cX1_findBest 82 = .ok (.aload_n 0, 1) := by decide +kernel
theorem dX1_findBest_83 : decode cX1_findBest 83 = .ok (.getfield 28, 3) := by decide +kernel
theorem dX1_findBest_86 : decode cX1_findBest 86 = .ok (.getfield 78, 3) := by decide +kernel
theorem dX1_findBest_89 : decode cX1_findBest 89 = .ok (.invokevirtual 90, 3) := by decide +kernel
theorem dX1_findBest_92 : decode cX1_findBest 92 = .ok (.istore_n 3, 1) := by decide +kernel
theorem dX1_findBest_93 : decode cX1_findBest 93 = .ok (.aload_n 0, 1) := by decide +kernel
theorem dX1_findBest_94 : decode cX1_findBest 94 = .ok (.iload 4, 2) := by decide +kernel
theorem dX1_findBest_96 : decode cX1_findBest 96 = .ok (.putfield 100, 3) := by decide +kernel
theorem dX1_findBest_99 : decode cX1_findBest 99 = .ok (.aload_n 0, 1) := by decide +kernel
theorem dX1_findBest_100 : decode cX1_findBest 100 = .ok (.iload_n 3, 1) := by decide +kernel
theorem dX1_findBest_101 : decode cX1_findBest 101 = .ok (.putfield 103, 3) := by decide +kernel
theorem dX1_findBest_104 : decode cX1_findBest 104 = .ok (.iinc 4 1, 3) := by decide +kernel
theorem dX1_findBest_107 : decode cX1_findBest 107 = .ok (.goto (-80), 3) := by decide +kernel
theorem dX1_findBest_110 : decode cX1_findBest 110 = .ok (.return_, 1) := by decide +kernel
set_option maxRecDepth 20000 in
theorem ggX1_neededBand_X4_lengthOf : GoodIn wsX1_neededBand wsX4_lengthOf := goodIn_r _ [7, 8, 9, 10, 11, 6, 12, 13, 163, 164, 165] (by decide +kernel) (by decide +kernel)
set_option maxRecDepth 20000 in
theorem gX1_neededBand_X4_lengthOf : GoodIn wsX1_neededBand (wsV RX1 65 RX4 yX4_lengthOf wsX4_lengthOf) := goodIn_app (goodIn_of _ (by decide +kernel)) ggX1_neededBand_X4_lengthOf
set_option maxRecDepth 20000 in
theorem ggX1_neededBand_X1_findBest : GoodIn wsX1_neededBand wsX1_findBest := goodIn_r _ [18, 2, 19, 20, 21, 22, 23, 1, 24, 25, 26, 27, 28, 29, 30, 31, 32, 33, 34, 4, 5, 6, 7, 8, 9, 10, 11, 12, 13, 35, 36, 37, 38, 39, 40, 41, 42, 43, 44, 45, 46, 47, 48, 49, 50, 51, 52, 53, 54, 55, 56, 57, 58, 59, 60, 61, 62, 63, 64, 65, 66, 67, 68, 69, 70, 71, 72, 73, 74, 75, 76, 77, 78, 79, 80, 81, 82, 83, 84, 85, 86, 87, 88, 89, 90, 3, 91, 92, 93, 94, 95, 96, 97, 98, 99, 100, 101, 102, 103, 104, 105, 106, 107, 108, 109, 110, 111, 112, 113, 114, 115, 116, 117, 118, 119, 120, 121, 122, 123, 124, 125, 126, 127, 128, 129, 130, 131, 132, 133, 134, 135, 136, 137, 138, 139, 140, 141, 142, 143, 144, 145, 146, 147, 148, 149, 150, 151, 152, 153, 154, 155, 156, 157, 158, 159, 160, 161, 162, 166, 167, 168, 169, 170, 171, 172, 173, 174, 175, 176, 177, 178, 179, 180, 181, 182, 183, 163, 164, 165, 184] (by decide +kernel) (by decide +kernel)
set_option maxRecDepth 20000 in
theorem gX1_neededBand_X1_findBest : GoodIn wsX1_neededBand (wsV RX1 110 RX1 yX1_findBest wsX1_findBest) := goodIn_app (goodIn_of _ (by decide +kernel)) ggX1_neededBand_X1_findBest
theorem dX1_neededBand_0 : decode cX1_neededBand 0 = .ok (.iconst 0, 1) := by decide +kernel
theorem dX1_neededBand_1 : decode cX1_neededBand 1 = .ok (.istore_n 3, 1) := by decide +kernel
theorem dX1_neededBand_2 : decode cX1_neededBand 2 = .ok (.iload_n 3, 1) := by decide +kernel
theorem dX1_neededBand_3 : decode cX1_neededBand 3 = .ok (.aload_n 0, 1) := by decide +kernel
theorem dX1_neededBand_4 : decode cX1_neededBand 4 = .ok (.getfield 43, 3) := by decide +kernel
theorem dX1_neededBand_7 : decode cX1_neededBand 7 = .ok (.iload_n 1, 1) := by decide +kernel
theorem dX1_neededBand_8 : decode cX1_neededBand 8 = .ok (.invokevirtual 65, 3) := by decide +kernel
theorem dX1_neededBand_11 : decode cX1_neededBand 11 = .ok (.if_icmp .ge 25, 3) := by decide +kernel
theorem dX1_neededBand_14 : decode cX1_neededBand 14 = .ok (.aload_n 0, 1) := by decide +kernel
theorem dX1_neededBand_15 : decode cX1_neededBand 15 = .ok (.iload_n 1, 1) := by decide +kernel
theorem dX1_neededBand_16 : decode cX1_neededBand 16 = .ok (.iload_n 3, 1) := by decide +kernel
theorem dX1_neededBand_17 : decode cX1_neededBand 17 = .ok (.invokevirtual 110, 3) := by decide +kernel
theorem dX1_neededBand_20 : decode cX1_neededBand 20 = .ok (.aload_n 0, 1) := by decide +kernel
theorem dX1_neededBand_21 : decode cX1_neededBand 21 = .ok (.getfield 100, 3) := by decide +kernel
theorem dX1_neededBand_24 : decode cX1_neededBand 24 = .ok (.iload_n 2, 1) := by decide +kernel
theorem dX1_neededBand_25 : decode cX1_neededBand 25 = .ok (.if_icmp .ne 5, 3) := by decide +kernel
theorem dX1_neededBand_28 : decode cX1_neededBand 28 = .ok (.iload_n 3, 1) := by decide +kernel
theorem dX1_neededBand_29 : decode cX1_neededBand 29 = .ok (.ireturn, 1) := by decide +kernel
theorem dX1_neededBand_30 : decode cX1_neededBand 30 = .ok (.iinc 3 1, 3) := by decide +kernel
theorem dX1_neededBand_33 : decode cX1_neededBand 33 = .ok (.goto (-31), 3) := by decide +kernel
theorem dX1_neededBand_36 : decode cX1_neededBand 36 = .ok (.bipush (-2), 2) := by decide +kernel
theorem dX1_neededBand_38 : decode cX1_neededBand 38 = .ok (.ireturn, 1) := by decide +kernel
set_option maxRecDepth 20000 in
theorem ggX1_scan_X7_valueOf : GoodIn wsX1_scan wsX7_valueOf := goodIn_r _ [11, 12, 157] (by decide +kernel) (by decide +kernel)
set_option maxRecDepth 20000 in
theorem gX1_scan_X7_valueOf : GoodIn wsX1_scan (wsV RX1 49 RX7 yX7_valueOf wsX7_valueOf) := goodIn_app (goodIn_of _ (by decide +kernel)) ggX1_scan_X7_valueOf
set_option maxRecDepth 20000 in
theorem ggX1_scan_X0_openQuery : GoodIn wsX1_scan wsX0_openQuery := goodIn_r _ [17, 18, 19, 20, 21, 22, 23, 24, 25, 26, 27, 28, 29, 30, 31, 32, 33, 34, 35, 16, 36, 37, 38, 8, 9, 10, 11, 12, 39, 40, 41, 42, 43, 44, 45, 46, 47, 48, 49, 50, 51, 52, 53, 54, 55, 56, 57, 58, 59, 60, 61, 62, 63, 64, 65, 66, 67, 68, 69, 70, 71, 72, 73, 74, 75, 76, 77, 78, 79, 80, 81, 82, 83, 152, 153, 154, 155, 156, 158, 159, 160, 161, 162, 163, 164, 165, 166, 167, 168, 169, 170, 157] (by decide +kernel) (by decide +kernel)
set_option maxRecDepth 20000 in
theorem gX1_scan_X0_openQuery : GoodIn wsX1_scan (wsV RX1 55 RX0 yX0_openQuery wsX0_openQuery) := goodIn_app (goodIn_of _ (by decide +kernel)) ggX1_scan_X0_openQuery
set_option maxRecDepth 20000 in
theorem ggX1_scan_X4_lengthOf : GoodIn wsX1_scan wsX4_lengthOf := goodIn_r _ [26, 27, 28, 29, 30, 25, 31, 32, 168, 169, 170] (by decide +kernel) (by decide +kernel)
set_option maxRecDepth 20000 in
theorem gX1_scan_X4_lengthOf : GoodIn wsX1_scan (wsV RX1 65 RX4 yX4_lengthOf wsX4_lengthOf) := goodIn_app (goodIn_of _ (by decide +kernel)) ggX1_scan_X4_lengthOf
set_option maxRecDepth 20000 in
theorem ggX1_scan_X6_hasWindow : GoodIn wsX1_scan wsX6_hasWindow := goodIn_r _ [89, 90, 91, 92, 93, 88, 94, 95, 96, 97, 98, 99, 100, 171, 172, 173] (by decide +kernel) (by decide +kernel)
set_option maxRecDepth 20000 in
theorem gX1_scan_X6_hasWindow : GoodIn wsX1_scan (wsV RX1 70 RX6 yX6_hasWindow wsX6_hasWindow) := goodIn_app (goodIn_of _ (by decide +kernel)) ggX1_scan_X6_hasWindow
set_option maxRecDepth 20000 in
theorem ggX1_scan_X0_laySecondWindow : GoodIn wsX1_scan wsX0_laySecondWindow := goodIn_r _ [104, 105, 37, 19, 106, 21, 107, 108, 109, 88, 110, 95, 96, 97, 98, 90, 99, 100, 38, 8, 9, 10, 11, 12, 64, 65, 66, 42, 67, 51, 68, 69, 70, 71, 72, 73, 74, 75, 76, 77, 78, 79, 80, 81, 82, 83, 44, 45, 46, 47, 48, 49, 50, 152, 153, 154, 155, 156, 158, 159, 160, 161, 162, 163, 164, 165, 166, 167, 171, 172, 173, 157] (by decide +kernel) (by decide +kernel)
set_option maxRecDepth 20000 in
theorem gX1_scan_X0_laySecondWindow : GoodIn wsX1_scan (wsV RX1 74 RX0 yX0_laySecondWindow wsX0_laySecondWindow) := goodIn_app (goodIn_of _ (by decide +kernel)) ggX1_scan_X0_laySecondWindow
set_option maxRecDepth 20000 in
theorem ggX1_scan_X2_wholeDistance : GoodIn wsX1_scan wsX2_wholeDistance := goodIn_r _ [114, 115, 116, 117, 118, 42, 119, 120, 121, 51, 122, 123, 124, 125, 52, 48, 49, 46, 50, 44, 45, 47, 126, 127, 128, 129, 130, 131, 132, 53, 133, 134, 135, 136, 137, 138, 139, 140, 158, 159, 160, 161, 162, 163, 164, 165, 166, 167] (by decide +kernel) (by decide +kernel)
set_option maxRecDepth 20000 in
theorem gX1_scan_X2_wholeDistance : GoodIn wsX1_scan (wsV RX1 113 RX2 yX2_wholeDistance wsX2_wholeDistance) := goodIn_app (goodIn_of _ (by decide +kernel)) ggX1_scan_X2_wholeDistance
theorem dX1_scan_0 : decode cX1_scan 0 = .ok (.aload_n 0, 1) := by decide +kernel
theorem dX1_scan_1 : decode cX1_scan 1 = .ok (.getfield 28, 3) := by decide +kernel
theorem dX1_scan_4 : decode cX1_scan 4 = .ok (.iload_n 1, 1) := by decide +kernel
theorem dX1_scan_5 : decode cX1_scan 5 = .ok (.aload_n 0, 1) := by decide +kernel
theorem dX1_scan_6 : decode cX1_scan 6 = .ok (.getfield 28, 3) := by decide +kernel
theorem dX1_scan_9 : decode cX1_scan 9 = .ok (.getfield 45, 3) := by decide +kernel
theorem dX1_scan_12 : decode cX1_scan 12 = .ok (.iconst 0, 1) := by decide +kernel
theorem dX1_scan_13 : decode cX1_scan 13 = .ok (.invokevirtual 49, 3) := by decide +kernel
theorem dX1_scan_16 : decode cX1_scan 16 = .ok (.invokevirtual 55, 3) := by decide +kernel
theorem dX1_scan_19 : decode cX1_scan 19 = .ok (.iconst 0, 1) := by decide +kernel
theorem dX1_scan_20 : decode cX1_scan 20 = .ok (.istore_n 2, 1) := by decide +kernel
theorem dX1_scan_21 : decode cX1_scan 21 = .ok (.iload_n 2, 1) := by decide +kernel
theorem dX1_scan_22 : decode cX1_scan 22 = .ok (.sipush 160, 3) := by decide +kernel
theorem dX1_scan_25 : decode cX1_scan 25 = .ok (.if_icmp .ge 59, 3) := by decide +kernel
theorem dX1_scan_28 : decode cX1_scan 28 = .ok (.aload_n 0, 1) := by decide +kernel
theorem dX1_scan_29 : decode cX1_scan 29 = .ok (.getfield 15, 3) := by decide +kernel
theorem dX1_scan_32 : decode cX1_scan 32 = .ok (.iload_n 2, 1) := by decide +kernel
theorem dX1_scan_33 : decode cX1_scan 33 = .ok (.iconst (-1), 1) := by decide +kernel
theorem dX1_scan_34 : decode cX1_scan 34 = .ok (.iastore, 1) := by decide +kernel
theorem dX1_scan_35 : decode cX1_scan 35 = .ok (.aload_n 0, 1) := by decide +kernel
theorem dX1_scan_36 : decode cX1_scan 36 = .ok (.getfield 38, 3) := by decide +kernel
theorem dX1_scan_39 : decode cX1_scan 39 = .ok (.iload_n 2, 1) := by decide +kernel
theorem dX1_scan_40 : decode cX1_scan 40 = .ok (.aload_n 0, 1) := by decide +kernel
theorem dX1_scan_41 : decode cX1_scan 41 = .ok (.getfield 43, 3) := by decide +kernel
theorem dX1_scan_44 : decode cX1_scan 44 = .ok (.iload_n 1, 1) := by decide +kernel
theorem dX1_scan_45 : decode cX1_scan 45 = .ok (.invokevirtual 65, 3) := by decide +kernel
theorem dX1_scan_48 : decode cX1_scan 48 = .ok (.invokevirtual 70, 3) := by decide +kernel
theorem dX1_scan_51 : decode cX1_scan 51 = .ok (.ifCond .eq 27, 3) := by decide +kernel
theorem dX1_scan_54 : decode cX1_scan 54 = .ok (.aload_n 0, 1) := by decide +kernel
theorem dX1_scan_55 : decode cX1_scan 55 = .ok (.getfield 28, 3) := by decide +kernel
theorem dX1_scan_58 : decode cX1_scan 58 = .ok (.iload_n 2, 1) := by decide +kernel
theorem dX1_scan_59 : decode cX1_scan 59 = .ok (.invokevirtual 74, 3) := by decide +kernel
theorem dX1_scan_62 : decode cX1_scan 62 = .ok (.aload_n 0, 1) := by decide +kernel
theorem dX1_scan_63 : decode cX1_scan 63 = .ok (.getfield 15, 3) := by decide +kernel
theorem dX1_scan_66 : decode cX1_scan 66 = .ok (.iload_n 2, 1) := by decide +kernel
theorem dX1_scan_67 : decode cX1_scan 67 = .ok (.aload_n 0, 1) := by decide +kernel
theorem dX1_scan_68 : decode cX1_scan 68 = .ok (.getfield 28, 3) := by decide +kernel
theorem dX1_scan_71 : decode cX1_scan 71 = .ok (.getfield 78, 3) := by decide +kernel
theorem dX1_scan_74 : decode cX1_scan 74 = .ok (.invokevirtual 113, 3) := by decide +kernel
theorem dX1_scan_77 : decode cX1_scan 77 = .ok (.iastore, 1) := by decide +kernel
theorem dX1_scan_78 : decode cX1_scan 78 = .ok (.iinc 2 1, 3) := by decide +kernel
theorem dX1_scan_81 : decode cX1_scan 81 = .ok (.goto (-60), 3) := by decide +kernel
theorem dX1_scan_84 : decode cX1_scan 84 = .ok (.return_, 1) := by decide +kernel
theorem dX1_scannedDistance_0 : decode cX1_scannedDistance 0 = .ok (.iload_n 1, 1) := by decide +kernel
theorem dX1_scannedDistance_1 : decode cX1_scannedDistance 1 = .ok (.ifCond .lt 19, 3) := by decide +kernel
theorem dX1_scannedDistance_4 : decode cX1_scannedDistance 4 = .ok (.iload_n 1, 1) := by decide +kernel
theorem dX1_scannedDistance_5 : decode cX1_scannedDistance 5 = .ok (.sipush 160, 3) := by decide +kernel
theorem dX1_scannedDistance_8 : decode cX1_scannedDistance 8 = .ok (.if_icmp .ge 12, 3) := by decide +kernel
theorem dX1_scannedDistance_11 : decode cX1_scannedDistance 11 = .ok (.aload_n 0, 1) := by decide +kernel
theorem dX1_scannedDistance_12 : decode cX1_scannedDistance 12 = .ok (.getfield 15, 3) := by decide +kernel
theorem dX1_scannedDistance_15 : decode cX1_scannedDistance 15 = .ok (.iload_n 1, 1) := by decide +kernel
theorem dX1_scannedDistance_16 : decode cX1_scannedDistance 16 = .ok (.iaload, 1) := by decide +kernel
theorem dX1_scannedDistance_17 : decode cX1_scannedDistance 17 = .ok (.goto 5, 3) := by decide +kernel
theorem dX1_scannedDistance_20 : decode cX1_scannedDistance 20 = .ok (.bipush (-2), 2) := by decide +kernel
theorem dX1_scannedDistance_22 : decode cX1_scannedDistance 22 = .ok (.ireturn, 1) := by decide +kernel
theorem dX1_leastScanned_0 : decode cX1_leastScanned 0 = .ok (.iconst (-1), 1) := by decide +kernel
theorem dX1_leastScanned_1 : decode cX1_leastScanned 1 = .ok (.istore_n 1, 1) := by decide +kernel
theorem dX1_leastScanned_2 : decode cX1_leastScanned 2 = .ok (.iconst 0, 1) := by decide +kernel
theorem dX1_leastScanned_3 : decode cX1_leastScanned 3 = .ok (.istore_n 2, 1) := by decide +kernel
theorem dX1_leastScanned_4 : decode cX1_leastScanned 4 = .ok (.iload_n 2, 1) := by decide +kernel
theorem dX1_leastScanned_5 : decode cX1_leastScanned 5 = .ok (.sipush 160, 3) := by decide +kernel
theorem dX1_leastScanned_8 : decode cX1_leastScanned 8 = .ok (.if_icmp .ge 39, 3) := by decide +kernel
theorem dX1_leastScanned_11 : decode cX1_leastScanned 11 = .ok (.aload_n 0, 1) := by decide +kernel
theorem dX1_leastScanned_12 : decode cX1_leastScanned 12 = .ok (.getfield 15, 3) := by decide +kernel
theorem dX1_leastScanned_15 : decode cX1_leastScanned 15 = .ok (.iload_n 2, 1) := by decide +kernel
theorem dX1_leastScanned_16 : decode cX1_leastScanned 16 = .ok (.iaload, 1) := by decide +kernel
theorem dX1_leastScanned_17 : decode cX1_leastScanned 17 = .ok (.ifCond .lt 24, 3) := by decide +kernel
theorem dX1_leastScanned_20 : decode cX1_leastScanned 20 = .ok (.iload_n 1, 1) := by decide +kernel
theorem dX1_leastScanned_21 : decode cX1_leastScanned 21 = .ok (.ifCond .lt 18, 3) := by decide +kernel
theorem dX1_leastScanned_24 : decode cX1_leastScanned 24 = .ok (.aload_n 0, 1) := by decide +kernel
theorem dX1_leastScanned_25 : decode cX1_leastScanned 25 = .ok (.getfield 15, 3) := by decide +kernel
theorem dX1_leastScanned_28 : decode cX1_leastScanned 28 = .ok (.iload_n 2, 1) := by decide +kernel
theorem dX1_leastScanned_29 : decode cX1_leastScanned 29 = .ok (.iaload, 1) := by decide +kernel
theorem dX1_leastScanned_30 : decode cX1_leastScanned 30 = .ok (.aload_n 0, 1) := by decide +kernel
theorem dX1_leastScanned_31 : decode cX1_leastScanned 31 = .ok (.getfield 15, 3) := by decide +kernel
theorem dX1_leastScanned_34 : decode cX1_leastScanned 34 = .ok (.iload_n 1, 1) := by decide +kernel
theorem dX1_leastScanned_35 : decode cX1_leastScanned 35 = .ok (.iaload, 1) := by decide +kernel
theorem dX1_leastScanned_36 : decode cX1_leastScanned 36 = .ok (.if_icmp .ge 5, 3) := by decide +kernel
theorem dX1_leastScanned_39 : decode cX1_leastScanned 39 = .ok (.iload_n 2, 1) := by decide +kernel
theorem dX1_leastScanned_40 : decode cX1_leastScanned 40 = .ok (.istore_n 1, 1) := by decide +kernel
theorem dX1_leastScanned_41 : decode cX1_leastScanned 41 = .ok (.iinc 2 1, 3) := by decide +kernel
theorem dX1_leastScanned_44 : decode cX1_leastScanned 44 = .ok (.goto (-40), 3) := by decide +kernel
theorem dX1_leastScanned_47 : decode cX1_leastScanned 47 = .ok (.iload_n 1, 1) := by decide +kernel
theorem dX1_leastScanned_48 : decode cX1_leastScanned 48 = .ok (.ireturn, 1) := by decide +kernel
set_option maxRecDepth 20000 in
theorem ggX1_findMatches_X1_scan : GoodIn wsX1_findMatches wsX1_scan := goodIn_r _ [9, 10, 11, 4, 12, 13, 14, 15, 16, 17, 18, 19, 20, 21, 22, 23, 24, 25, 26, 27, 28, 29, 30, 31, 32, 33, 34, 35, 36, 37, 38, 39, 40, 41, 42, 43, 44, 45, 46, 47, 48, 49, 50, 51, 52, 53, 54, 55, 56, 57, 58, 59, 60, 61, 62, 63, 64, 65, 66, 67, 68, 69, 70, 71, 72, 73, 74, 75, 76, 77, 78, 79, 80, 81, 82, 83, 84, 85, 86, 87, 88, 89, 90, 91, 92, 93, 94, 95, 96, 97, 98, 99, 100, 101, 102, 103, 104, 105, 106, 107, 108, 109, 110, 111, 112, 113, 114, 115, 116, 117, 118, 119, 120, 121, 122, 123, 124, 125, 126, 127, 128, 129, 130, 131, 132, 133, 134, 135, 136, 137, 138, 139, 140, 141, 142, 143, 144, 145, 146, 147, 148, 160, 161, 162, 163, 164, 165, 166, 167, 168, 169, 170, 171, 172, 173, 174, 175, 176, 177, 178, 179, 180, 181, 182, 183, 184, 185, 186, 187, 188, 189, 190, 191, 192] (by decide +kernel) (by decide +kernel)
set_option maxRecDepth 20000 in
theorem gX1_findMatches_X1_scan : GoodIn wsX1_findMatches (wsV RX1 116 RX1 yX1_scan wsX1_scan) := goodIn_app (goodIn_of _ (by decide +kernel)) ggX1_findMatches_X1_scan
set_option maxRecDepth 20000 in
theorem ggX1_findMatches_X1_leastScanned : GoodIn wsX1_findMatches wsX1_leastScanned := goodIn_r _ [152, 4, 160, 161, 162, 163, 164, 165, 166, 167, 168, 169, 170] (by decide +kernel) (by decide +kernel)
set_option maxRecDepth 20000 in
theorem gX1_findMatches_X1_leastScanned : GoodIn wsX1_findMatches (wsV RX1 122 RX1 yX1_leastScanned wsX1_leastScanned) := goodIn_app (goodIn_of _ (by decide +kernel)) ggX1_findMatches_X1_leastScanned
set_option maxRecDepth 20000 in
theorem ggX1_findMatches_X1_passOverAround : GoodIn wsX1_findMatches wsX1_passOverAround := goodIn_r _ [156, 10, 11, 157, 158, 54, 159, 4, 15, 16, 17, 18, 19, 20, 160, 161, 162, 163, 164, 165, 166, 167, 168, 169, 170, 171, 172, 173, 174, 175, 176] (by decide +kernel) (by decide +kernel)
set_option maxRecDepth 20000 in
theorem gX1_findMatches_X1_passOverAround : GoodIn wsX1_findMatches (wsV RX1 125 RX1 yX1_passOverAround wsX1_passOverAround) := goodIn_app (goodIn_of _ (by decide +kernel)) ggX1_findMatches_X1_passOverAround
theorem dX1_findMatches_0 : decode cX1_findMatches 0 = .ok (.aload_n 0, 1) := by decide +kernel
theorem dX1_findMatches_1 : decode cX1_findMatches 1 = .ok (.iload_n 1, 1) := by decide +kernel
theorem dX1_findMatches_2 : decode cX1_findMatches 2 = .ok (.invokevirtual 116, 3) := by decide +kernel
theorem dX1_findMatches_5 : decode cX1_findMatches 5 = .ok (.aload_n 0, 1) := by decide +kernel
theorem dX1_findMatches_6 : decode cX1_findMatches 6 = .ok (.iconst 0, 1) := by decide +kernel
theorem dX1_findMatches_7 : decode cX1_findMatches 7 = .ok (.putfield 119, 3) := by decide +kernel
theorem dX1_findMatches_10 : decode cX1_findMatches 10 = .ok (.aload_n 0, 1) := by decide +kernel
theorem dX1_findMatches_11 : decode cX1_findMatches 11 = .ok (.invokevirtual 122, 3) := by decide +kernel
theorem dX1_findMatches_14 : decode cX1_findMatches 14 = .ok (.istore_n 2, 1) := by decide +kernel
theorem dX1_findMatches_15 : decode cX1_findMatches 15 = .ok (.iconst 0, 1) := by decide +kernel
theorem dX1_findMatches_16 : decode cX1_findMatches 16 = .ok (.istore_n 3, 1) := by decide +kernel
theorem dX1_findMatches_17 : decode cX1_findMatches 17 = .ok (.iload_n 3, 1) := by decide +kernel
theorem dX1_findMatches_18 : decode cX1_findMatches 18 = .ok (.sipush 160, 3) := by decide +kernel
theorem dX1_findMatches_21 : decode cX1_findMatches 21 = .ok (.if_icmp .ge 49, 3) := by decide +kernel
theorem dX1_findMatches_24 : decode cX1_findMatches 24 = .ok (.iload_n 2, 1) := by decide +kernel
theorem dX1_findMatches_25 : decode cX1_findMatches 25 = .ok (.ifCond .lt 45, 3) := by decide +kernel
theorem dX1_findMatches_28 : decode cX1_findMatches 28 = .ok (.aload_n 0, 1) := by decide +kernel
theorem dX1_findMatches_29 : decode cX1_findMatches 29 = .ok (.getfield 18, 3) := by decide +kernel
theorem dX1_findMatches_32 : decode cX1_findMatches 32 = .ok (.iload_n 3, 1) := by decide +kernel
theorem dX1_findMatches_33 : decode cX1_findMatches 33 = .ok (.iload_n 2, 1) := by decide +kernel
theorem dX1_findMatches_34 : decode cX1_findMatches 34 = .ok (.iastore, 1) := by decide +kernel
theorem dX1_findMatches_35 : decode cX1_findMatches 35 = .ok (.aload_n 0, 1) := by decide +kernel
theorem dX1_findMatches_36 : decode cX1_findMatches 36 = .ok (.getfield 21, 3) := by decide +kernel
theorem dX1_findMatches_39 : decode cX1_findMatches 39 = .ok (.iload_n 3, 1) := by decide +kernel
theorem dX1_findMatches_40 : decode cX1_findMatches 40 = .ok (.aload_n 0, 1) := by decide +kernel
theorem dX1_findMatches_41 : decode cX1_findMatches 41 = .ok (.getfield 15, 3) := by decide +kernel
theorem dX1_findMatches_44 : decode cX1_findMatches 44 = .ok (.iload_n 2, 1) := by decide +kernel
theorem dX1_findMatches_45 : decode cX1_findMatches 45 = .ok (.iaload, 1) := by decide +kernel
theorem dX1_findMatches_46 : decode cX1_findMatches 46 = .ok (.iastore, 1) := by decide +kernel
theorem dX1_findMatches_47 : decode cX1_findMatches 47 = .ok (.aload_n 0, 1) := by decide +kernel
theorem dX1_findMatches_48 : decode cX1_findMatches 48 = .ok (.iload_n 3, 1) := by decide +kernel
theorem dX1_findMatches_49 : decode cX1_findMatches 49 = .ok (.iconst 1, 1) := by decide +kernel
theorem dX1_findMatches_50 : decode cX1_findMatches 50 = .ok (.iadd, 1) := by decide +kernel
theorem dX1_findMatches_51 : decode cX1_findMatches 51 = .ok (.putfield 119, 3) := by decide +kernel
theorem dX1_findMatches_54 : decode cX1_findMatches 54 = .ok (.aload_n 0, 1) := by decide +kernel
theorem dX1_findMatches_55 : decode cX1_findMatches 55 = .ok (.iload_n 2, 1) := by decide +kernel
theorem dX1_findMatches_56 : decode cX1_findMatches 56 = .ok (.invokevirtual 125, 3) := by decide +kernel
theorem dX1_findMatches_59 : decode cX1_findMatches 59 = .ok (.aload_n 0, 1) := by decide +kernel
theorem dX1_findMatches_60 : decode cX1_findMatches 60 = .ok (.invokevirtual 122, 3) := by decide +kernel
theorem dX1_findMatches_63 : decode cX1_findMatches 63 = .ok (.istore_n 2, 1) := by decide +kernel
theorem dX1_findMatches_64 : decode cX1_findMatches 64 = .ok (.iinc 3 1, 3) := by decide +kernel
theorem dX1_findMatches_67 : decode cX1_findMatches 67 = .ok (.goto (-50), 3) := by decide +kernel
theorem dX1_findMatches_70 : decode cX1_findMatches 70 = .ok (.return_, 1) := by decide +kernel
set_option maxRecDepth 20000 in
theorem ggX1_passOverAround_X7_valueOf : GoodIn wsX1_passOverAround wsX7_valueOf := goodIn_r _ [12, 13, 30] (by decide +kernel) (by decide +kernel)
set_option maxRecDepth 20000 in
theorem gX1_passOverAround_X7_valueOf : GoodIn wsX1_passOverAround (wsV RX1 49 RX7 yX7_valueOf wsX7_valueOf) := goodIn_app (goodIn_of _ (by decide +kernel)) ggX1_passOverAround_X7_valueOf
theorem dX1_passOverAround_0 : decode cX1_passOverAround 0 = .ok (.aload_n 0, 1) := by decide +kernel
theorem dX1_passOverAround_1 : decode cX1_passOverAround 1 = .ok (.getfield 28, 3) := by decide +kernel
theorem dX1_passOverAround_4 : decode cX1_passOverAround 4 = .ok (.getfield 45, 3) := by decide +kernel
theorem dX1_passOverAround_7 : decode cX1_passOverAround 7 = .ok (.iconst 3, 1) := by decide +kernel
theorem dX1_passOverAround_8 : decode cX1_passOverAround 8 = .ok (.invokevirtual 49, 3) := by decide +kernel
theorem dX1_passOverAround_11 : decode cX1_passOverAround 11 = .ok (.istore_n 2, 1) := by decide +kernel
theorem dX1_passOverAround_12 : decode cX1_passOverAround 12 = .ok (.iconst 0, 1) := by decide +kernel
theorem dX1_passOverAround_13 : decode cX1_passOverAround 13 = .ok (.istore_n 3, 1) := by decide +kernel
theorem dX1_passOverAround_14 : decode cX1_passOverAround 14 = .ok (.iload_n 3, 1) := by decide +kernel
theorem dX1_passOverAround_15 : decode cX1_passOverAround 15 = .ok (.sipush 160, 3) := by decide +kernel
theorem dX1_passOverAround_18 : decode cX1_passOverAround 18 = .ok (.if_icmp .ge 26, 3) := by decide +kernel
theorem dX1_passOverAround_21 : decode cX1_passOverAround 21 = .ok (.iload_n 3, 1) := by decide +kernel
theorem dX1_passOverAround_22 : decode cX1_passOverAround 22 = .ok (.iload_n 1, 1) := by decide +kernel
theorem dX1_passOverAround_23 : decode cX1_passOverAround 23 = .ok (.isub, 1) := by decide +kernel
theorem dX1_passOverAround_24 : decode cX1_passOverAround 24 = .ok (.invokestatic 128, 3) := by decide +kernel
theorem dX1_passOverAround_27 : decode cX1_passOverAround 27 = .ok (.iload_n 2, 1) := by decide +kernel
theorem dX1_passOverAround_28 : decode cX1_passOverAround 28 = .ok (.if_icmp .ge 10, 3) := by decide +kernel
theorem dX1_passOverAround_31 : decode cX1_passOverAround 31 = .ok (.aload_n 0, 1) := by decide +kernel
theorem dX1_passOverAround_32 : decode cX1_passOverAround 32 = .ok (.getfield 15, 3) := by decide +kernel
theorem dX1_passOverAround_35 : decode cX1_passOverAround 35 = .ok (.iload_n 3, 1) := by decide +kernel
theorem dX1_passOverAround_36 : decode cX1_passOverAround 36 = .ok (.iconst (-1), 1) := by decide +kernel
theorem dX1_passOverAround_37 : decode cX1_passOverAround 37 = .ok (.iastore, 1) := by decide +kernel
theorem dX1_passOverAround_38 : decode cX1_passOverAround 38 = .ok (.iinc 3 1, 3) := by decide +kernel
theorem dX1_passOverAround_41 : decode cX1_passOverAround 41 = .ok (.goto (-27), 3) := by decide +kernel
theorem dX1_passOverAround_44 : decode cX1_passOverAround 44 = .ok (.return_, 1) := by decide +kernel
theorem dX1_matchWindow_0 : decode cX1_matchWindow 0 = .ok (.iload_n 1, 1) := by decide +kernel
theorem dX1_matchWindow_1 : decode cX1_matchWindow 1 = .ok (.ifCond .lt 27, 3) := by decide +kernel
theorem dX1_matchWindow_4 : decode cX1_matchWindow 4 = .ok (.iload_n 1, 1) := by decide +kernel
theorem dX1_matchWindow_5 : decode cX1_matchWindow 5 = .ok (.aload_n 0, 1) := by decide +kernel
theorem dX1_matchWindow_6 : decode cX1_matchWindow 6 = .ok (.getfield 119, 3) := by decide +kernel
theorem dX1_matchWindow_9 : decode cX1_matchWindow 9 = .ok (.if_icmp .ge 19, 3) := by decide +kernel
theorem dX1_matchWindow_12 : decode cX1_matchWindow 12 = .ok (.iload_n 1, 1) := by decide +kernel
theorem dX1_matchWindow_13 : decode cX1_matchWindow 13 = .ok (.sipush 160, 3) := by decide +kernel
theorem dX1_matchWindow_16 : decode cX1_matchWindow 16 = .ok (.if_icmp .ge 12, 3) := by decide +kernel
theorem dX1_matchWindow_19 : decode cX1_matchWindow 19 = .ok (.aload_n 0, 1) := by decide +kernel
theorem dX1_matchWindow_20 : decode cX1_matchWindow 20 = .ok (.getfield 18, 3) := by decide +kernel
theorem dX1_matchWindow_23 : decode cX1_matchWindow 23 = .ok (.iload_n 1, 1) := by decide +kernel
theorem dX1_matchWindow_24 : decode cX1_matchWindow 24 = .ok (.iaload, 1) := by decide +kernel
theorem dX1_matchWindow_25 : decode cX1_matchWindow 25 = .ok (.goto 5, 3) := by decide +kernel
theorem dX1_matchWindow_28 : decode cX1_matchWindow 28 = .ok (.bipush (-2), 2) := by decide +kernel
theorem dX1_matchWindow_30 : decode cX1_matchWindow 30 = .ok (.ireturn, 1) := by decide +kernel
theorem dX1_matchDistance_0 : decode cX1_matchDistance 0 = .ok (.iload_n 1, 1) := by decide +kernel
theorem dX1_matchDistance_1 : decode cX1_matchDistance 1 = .ok (.ifCond .lt 27, 3) := by decide +kernel
theorem dX1_matchDistance_4 : decode cX1_matchDistance 4 = .ok (.iload_n 1, 1) := by decide +kernel
theorem dX1_matchDistance_5 : decode cX1_matchDistance 5 = .ok (.aload_n 0, 1) := by decide +kernel
theorem dX1_matchDistance_6 : decode cX1_matchDistance 6 = .ok (.getfield 119, 3) := by decide +kernel
theorem dX1_matchDistance_9 : decode cX1_matchDistance 9 = .ok (.if_icmp .ge 19, 3) := by decide +kernel
theorem dX1_matchDistance_12 : decode cX1_matchDistance 12 = .ok (.iload_n 1, 1) := by decide +kernel
theorem dX1_matchDistance_13 : decode cX1_matchDistance 13 = .ok (.sipush 160, 3) := by decide +kernel
theorem dX1_matchDistance_16 : decode cX1_matchDistance 16 = .ok (.if_icmp .ge 12, 3) := by decide +kernel
theorem dX1_matchDistance_19 : decode cX1_matchDistance 19 = .ok (.aload_n 0, 1) := by decide +kernel
theorem dX1_matchDistance_20 : decode cX1_matchDistance 20 = .ok (.getfield 21, 3) := by decide +kernel
theorem dX1_matchDistance_23 : decode cX1_matchDistance 23 = .ok (.iload_n 1, 1) := by decide +kernel
theorem dX1_matchDistance_24 : decode cX1_matchDistance 24 = .ok (.iaload, 1) := by decide +kernel
theorem dX1_matchDistance_25 : decode cX1_matchDistance 25 = .ok (.goto 5, 3) := by decide +kernel
theorem dX1_matchDistance_28 : decode cX1_matchDistance 28 = .ok (.bipush (-2), 2) := by decide +kernel
theorem dX1_matchDistance_30 : decode cX1_matchDistance 30 = .ok (.ireturn, 1) := by decide +kernel
set_option maxRecDepth 20000 in
theorem ggX1_matchesWithin_X1_matchDistance : GoodIn wsX1_matchesWithin wsX1_matchDistance := goodIn_r _ [6, 1, 7, 8, 9, 10, 11, 12, 13, 14, 15, 16, 17, 18] (by decide +kernel) (by decide +kernel)
set_option maxRecDepth 20000 in
theorem gX1_matchesWithin_X1_matchDistance : GoodIn wsX1_matchesWithin (wsV RX1 133 RX1 yX1_matchDistance wsX1_matchDistance) := goodIn_app (goodIn_of _ (by decide +kernel)) ggX1_matchesWithin_X1_matchDistance
theorem dX1_matchesWithin_0 : decode cX1_matchesWithin 0 = .ok (.iconst 0, 1) := by decide +kernel
theorem dX1_matchesWithin_1 : decode cX1_matchesWithin 1 = .ok (.istore_n 2, 1) := by decide +kernel
theorem dX1_matchesWithin_2 : decode cX1_matchesWithin 2 = .ok (.iconst 0, 1) := by decide +kernel
theorem dX1_matchesWithin_3 : decode cX1_matchesWithin 3 = .ok (.istore_n 3, 1) := by decide +kernel
theorem dX1_matchesWithin_4 : decode cX1_matchesWithin 4 = .ok (.iload_n 3, 1) := by decide +kernel
theorem dX1_matchesWithin_5 : decode cX1_matchesWithin 5 = .ok (.aload_n 0, 1) := by decide +kernel
theorem dX1_matchesWithin_6 : decode cX1_matchesWithin 6 = .ok (.getfield 119, 3) := by decide +kernel
theorem dX1_matchesWithin_9 : decode cX1_matchesWithin 9 = .ok (.if_icmp .ge 21, 3) := by decide +kernel
theorem dX1_matchesWithin_12 : decode cX1_matchesWithin 12 = .ok (.aload_n 0, 1) := by decide +kernel
theorem dX1_matchesWithin_13 : decode cX1_matchesWithin 13 = .ok (.iload_n 3, 1) := by decide +kernel
theorem dX1_matchesWithin_14 : decode cX1_matchesWithin 14 = .ok (.invokevirtual 133, 3) := by decide +kernel
theorem dX1_matchesWithin_17 : decode cX1_matchesWithin 17 = .ok (.iload_n 1, 1) := by decide +kernel
theorem dX1_matchesWithin_18 : decode cX1_matchesWithin 18 = .ok (.if_icmp .gt 6, 3) := by decide +kernel
theorem dX1_matchesWithin_21 : decode cX1_matchesWithin 21 = .ok (.iinc 2 1, 3) := by decide +kernel
theorem dX1_matchesWithin_24 : decode cX1_matchesWithin 24 = .ok (.iinc 3 1, 3) := by decide +kernel
theorem dX1_matchesWithin_27 : decode cX1_matchesWithin 27 = .ok (.goto (-23), 3) := by decide +kernel
theorem dX1_matchesWithin_30 : decode cX1_matchesWithin 30 = .ok (.iload_n 2, 1) := by decide +kernel
theorem dX1_matchesWithin_31 : decode cX1_matchesWithin 31 = .ok (.ireturn, 1) := by decide +kernel
set_option maxRecDepth 20000 in
theorem ggX1_placesWithin_X1_matchDistance : GoodIn wsX1_placesWithin wsX1_matchDistance := goodIn_r _ [7, 2, 8, 18, 19, 20, 21, 22, 23, 24, 25, 26, 27, 28] (by decide +kernel) (by decide +kernel)
set_option maxRecDepth 20000 in
theorem gX1_placesWithin_X1_matchDistance : GoodIn wsX1_placesWithin (wsV RX1 133 RX1 yX1_matchDistance wsX1_matchDistance) := goodIn_app (goodIn_of _ (by decide +kernel)) ggX1_placesWithin_X1_matchDistance
set_option maxRecDepth 20000 in
theorem ggX1_placesWithin_X1_matchWindow : GoodIn wsX1_placesWithin wsX1_matchWindow := goodIn_r _ [12, 2, 13, 18, 19, 20, 21, 22, 23, 24, 25, 26, 27, 28] (by decide +kernel) (by decide +kernel)
set_option maxRecDepth 20000 in
theorem gX1_placesWithin_X1_matchWindow : GoodIn wsX1_placesWithin (wsV RX1 136 RX1 yX1_matchWindow wsX1_matchWindow) := goodIn_app (goodIn_of _ (by decide +kernel)) ggX1_placesWithin_X1_matchWindow
set_option maxRecDepth 20000 in
theorem ggX1_placesWithin_X1_coverFrom : GoodIn wsX1_placesWithin wsX1_coverFrom := goodIn_r _ [17, 1, 18, 19, 20, 21, 22, 23, 24, 25, 26, 27, 28] (by decide +kernel) (by decide +kernel)
set_option maxRecDepth 20000 in
theorem gX1_placesWithin_X1_coverFrom : GoodIn wsX1_placesWithin (wsV RX1 139 RX1 yX1_coverFrom wsX1_coverFrom) := goodIn_app (goodIn_of _ (by decide +kernel)) ggX1_placesWithin_X1_coverFrom
theorem dX1_placesWithin_0 : decode cX1_placesWithin 0 = .ok (.iconst 0, 1) := by decide +kernel
theorem dX1_placesWithin_1 : decode cX1_placesWithin 1 = .ok (.istore_n 3, 1) := by decide +kernel
theorem dX1_placesWithin_2 : decode cX1_placesWithin 2 = .ok (.iload_n 3, 1) := by decide +kernel
theorem dX1_placesWithin_3 : decode cX1_placesWithin 3 = .ok (.sipush 160, 3) := by decide +kernel
theorem dX1_placesWithin_6 : decode cX1_placesWithin 6 = .ok (.if_icmp .ge 16, 3) := by decide +kernel
theorem dX1_placesWithin_9 : decode cX1_placesWithin 9 = .ok (.aload_n 0, 1) := by decide +kernel
theorem dX1_placesWithin_10 : decode cX1_placesWithin 10 = .ok (.getfield 24, 3) := by decide +kernel
theorem dX1_placesWithin_13 : decode cX1_placesWithin 13 = .ok (.iload_n 3, 1) := by decide +kernel
theorem dX1_placesWithin_14 : decode cX1_placesWithin 14 = .ok (.iconst 0, 1) := by decide +kernel
theorem dX1_placesWithin_15 : decode cX1_placesWithin 15 = .ok (.bastore, 1) := by decide +kernel
theorem dX1_placesWithin_16 : decode cX1_placesWithin 16 = .ok (.iinc 3 1, 3) := by decide +kernel
theorem dX1_placesWithin_19 : decode cX1_placesWithin 19 = .ok (.goto (-17), 3) := by decide +kernel
theorem dX1_placesWithin_22 : decode cX1_placesWithin 22 = .ok (.iconst 0, 1) := by decide +kernel
theorem dX1_placesWithin_23 : decode cX1_placesWithin 23 = .ok (.istore_n 3, 1) := by decide +kernel
theorem dX1_placesWithin_24 : decode cX1_placesWithin 24 = .ok (.iload_n 3, 1) := by decide +kernel
theorem dX1_placesWithin_25 : decode cX1_placesWithin 25 = .ok (.aload_n 0, 1) := by decide +kernel
theorem dX1_placesWithin_26 : decode cX1_placesWithin 26 = .ok (.getfield 119, 3) := by decide +kernel
theorem dX1_placesWithin_29 : decode cX1_placesWithin 29 = .ok (.if_icmp .ge 28, 3) := by decide +kernel
theorem dX1_placesWithin_32 : decode cX1_placesWithin 32 = .ok (.aload_n 0, 1) := by decide +kernel
theorem dX1_placesWithin_33 : decode cX1_placesWithin 33 = .ok (.iload_n 3, 1) := by decide +kernel
theorem dX1_placesWithin_34 : decode cX1_placesWithin 34 = .ok (.invokevirtual 133, 3) := by decide +kernel
theorem dX1_placesWithin_37 : decode cX1_placesWithin 37 = .ok (.iload_n 1, 1) := by decide +kernel
theorem dX1_placesWithin_38 : decode cX1_placesWithin 38 = .ok (.if_icmp .gt 13, 3) := by decide +kernel
theorem dX1_placesWithin_41 : decode cX1_placesWithin 41 = .ok (.aload_n 0, 1) := by decide +kernel
theorem dX1_placesWithin_42 : decode cX1_placesWithin 42 = .ok (.aload_n 0, 1) := by decide +kernel
theorem dX1_placesWithin_43 : decode cX1_placesWithin 43 = .ok (.iload_n 3, 1) := by decide +kernel
theorem dX1_placesWithin_44 : decode cX1_placesWithin 44 = .ok (.invokevirtual 136, 3) := by decide +kernel
theorem dX1_placesWithin_47 : decode cX1_placesWithin 47 = .ok (.iload_n 2, 1) := by decide +kernel
theorem dX1_placesWithin_48 : decode cX1_placesWithin 48 = .ok (.invokevirtual 139, 3) := by decide +kernel
theorem dX1_placesWithin_51 : decode cX1_placesWithin 51 = .ok (.iinc 3 1, 3) := by decide +kernel
theorem dX1_placesWithin_54 : decode cX1_placesWithin 54 = .ok (.goto (-30), 3) := by decide +kernel
theorem dX1_placesWithin_57 : decode cX1_placesWithin 57 = .ok (.iconst 0, 1) := by decide +kernel
theorem dX1_placesWithin_58 : decode cX1_placesWithin 58 = .ok (.istore_n 3, 1) := by decide +kernel
theorem dX1_placesWithin_59 : decode cX1_placesWithin 59 = .ok (.iconst 0, 1) := by decide +kernel
theorem dX1_placesWithin_60 : decode cX1_placesWithin 60 = .ok (.istore 4, 2) := by decide +kernel
theorem dX1_placesWithin_62 : decode cX1_placesWithin 62 = .ok (.iload 4, 2) := by decide +kernel
theorem dX1_placesWithin_64 : decode cX1_placesWithin 64 = .ok (.sipush 160, 3) := by decide +kernel
theorem dX1_placesWithin_67 : decode cX1_placesWithin 67 = .ok (.if_icmp .ge 22, 3) := by decide +kernel
theorem dX1_placesWithin_70 : decode cX1_placesWithin 70 = .ok (.aload_n 0, 1) := by decide +kernel
theorem dX1_placesWithin_71 : decode cX1_placesWithin 71 = .ok (.getfield 24, 3) := by decide +kernel
theorem dX1_placesWithin_74 : decode cX1_placesWithin 74 = .ok (.iload 4, 2) := by decide +kernel
theorem dX1_placesWithin_76 : decode cX1_placesWithin 76 = .ok (.baload, 1) := by decide +kernel
theorem dX1_placesWithin_77 : decode cX1_placesWithin 77 = .ok (.ifCond .eq 6, 3) := by decide +kernel
theorem dX1_placesWithin_80 : decode cX1_placesWithin 80 = .ok (.iinc 3 1, 3) := by decide +kernel
theorem dX1_placesWithin_83 : decode cX1_placesWithin 83 = .ok (.iinc 4 1, 3) := by decide +kernel
theorem dX1_placesWithin_86 : decode cX1_placesWithin 86 = .ok (.goto (-24), 3) := by decide +kernel
theorem dX1_placesWithin_89 : decode cX1_placesWithin 89 = .ok (.iload_n 3, 1) := by decide +kernel
theorem dX1_placesWithin_90 : decode cX1_placesWithin 90 = .ok (.ireturn, 1) := by decide +kernel
theorem dX1_coverFrom_0 : decode cX1_coverFrom 0 = .ok (.iconst 0, 1) := by decide +kernel
theorem dX1_coverFrom_1 : decode cX1_coverFrom 1 = .ok (.istore_n 3, 1) := by decide +kernel
theorem dX1_coverFrom_2 : decode cX1_coverFrom 2 = .ok (.iload_n 3, 1) := by decide +kernel
theorem dX1_coverFrom_3 : decode cX1_coverFrom 3 = .ok (.iload_n 2, 1) := by decide +kernel
theorem dX1_coverFrom_4 : decode cX1_coverFrom 4 = .ok (.if_icmp .ge 35, 3) := by decide +kernel
theorem dX1_coverFrom_7 : decode cX1_coverFrom 7 = .ok (.iload_n 1, 1) := by decide +kernel
theorem dX1_coverFrom_8 : decode cX1_coverFrom 8 = .ok (.iload_n 3, 1) := by decide +kernel
theorem dX1_coverFrom_9 : decode cX1_coverFrom 9 = .ok (.iadd, 1) := by decide +kernel
theorem dX1_coverFrom_10 : decode cX1_coverFrom 10 = .ok (.istore 4, 2) := by decide +kernel
theorem dX1_coverFrom_12 : decode cX1_coverFrom 12 = .ok (.iload 4, 2) := by decide +kernel
theorem dX1_coverFrom_14 : decode cX1_coverFrom 14 = .ok (.ifCond .lt 19, 3) := by decide +kernel
theorem dX1_coverFrom_17 : decode cX1_coverFrom 17 = .ok (.iload 4, 2) := by decide +kernel
theorem dX1_coverFrom_19 : decode cX1_coverFrom 19 = .ok (.sipush 160, 3) := by decide +kernel
theorem dX1_coverFrom_22 : decode cX1_coverFrom 22 = .ok (.if_icmp .ge 11, 3) := by decide +kernel
theorem dX1_coverFrom_25 : decode cX1_coverFrom 25 = .ok (.aload_n 0, 1) := by decide +kernel
theorem dX1_coverFrom_26 : decode cX1_coverFrom 26 = .ok (.getfield 24, 3) := by decide +kernel
theorem dX1_coverFrom_29 : decode cX1_coverFrom 29 = .ok (.iload 4, 2) := by decide +kernel
theorem dX1_coverFrom_31 : decode cX1_coverFrom 31 = .ok (.iconst 1, 1) := by decide +kernel
theorem dX1_coverFrom_32 : decode cX1_coverFrom 32 = .ok (.bastore, 1) := by decide +kernel
theorem dX1_coverFrom_33 : decode cX1_coverFrom 33 = .ok (.iinc 3 1, 3) := by decide +kernel
theorem dX1_coverFrom_36 : decode cX1_coverFrom 36 = .ok (.goto (-34), 3) := by decide +kernel
theorem dX1_coverFrom_39 : decode cX1_coverFrom 39 = .ok (.return_, 1) := by decide +kernel
set_option maxRecDepth 20000 in
theorem ggX1_rankOf_X1_scannedDistance : GoodIn wsX1_rankOf wsX1_scannedDistance := goodIn_r _ [6, 1, 7, 8, 9, 10, 11, 12, 13, 14, 15, 16, 17] (by decide +kernel) (by decide +kernel)
set_option maxRecDepth 20000 in
theorem gX1_rankOf_X1_scannedDistance : GoodIn wsX1_rankOf (wsV RX1 142 RX1 yX1_scannedDistance wsX1_scannedDistance) := goodIn_app (goodIn_of _ (by decide +kernel)) ggX1_rankOf_X1_scannedDistance
theorem dX1_rankOf_0 : decode cX1_rankOf 0 = .ok (.aload_n 0, 1) := by decide +kernel
theorem dX1_rankOf_1 : decode cX1_rankOf 1 = .ok (.iload_n 1, 1) := by decide +kernel
theorem dX1_rankOf_2 : decode cX1_rankOf 2 = .ok (.invokevirtual 142, 3) := by decide +kernel
theorem dX1_rankOf_5 : decode cX1_rankOf 5 = .ok (.istore_n 2, 1) := by decide +kernel
theorem dX1_rankOf_6 : decode cX1_rankOf 6 = .ok (.iconst 0, 1) := by decide +kernel
theorem dX1_rankOf_7 : decode cX1_rankOf 7 = .ok (.istore_n 3, 1) := by decide +kernel
theorem dX1_rankOf_8 : decode cX1_rankOf 8 = .ok (.iconst 0, 1) := by decide +kernel
theorem dX1_rankOf_9 : decode cX1_rankOf 9 = .ok (.istore 4, 2) := by decide +kernel
theorem dX1_rankOf_11 : decode cX1_rankOf 11 = .ok (.iload 4, 2) := by decide +kernel
theorem dX1_rankOf_13 : decode cX1_rankOf 13 = .ok (.sipush 160, 3) := by decide +kernel
theorem dX1_rankOf_16 : decode cX1_rankOf 16 = .ok (.if_icmp .ge 44, 3) := by decide +kernel
theorem dX1_rankOf_19 : decode cX1_rankOf 19 = .ok (.aload_n 0, 1) := by decide +kernel
theorem dX1_rankOf_20 : decode cX1_rankOf 20 = .ok (.getfield 15, 3) := by decide +kernel
theorem dX1_rankOf_23 : decode cX1_rankOf 23 = .ok (.iload 4, 2) := by decide +kernel
theorem dX1_rankOf_25 : decode cX1_rankOf 25 = .ok (.iaload, 1) := by decide +kernel
theorem dX1_rankOf_26 : decode cX1_rankOf 26 = .ok (.istore 5, 2) := by decide +kernel
theorem dX1_rankOf_28 : decode cX1_rankOf 28 = .ok (.iload 5, 2) := by decide +kernel
theorem dX1_rankOf_30 : decode cX1_rankOf 30 = .ok (.ifCond .lt 24, 3) := by decide +kernel
theorem dX1_rankOf_33 : decode cX1_rankOf 33 = .ok (.iload 5, 2) := by decide +kernel
theorem dX1_rankOf_35 : decode cX1_rankOf 35 = .ok (.iload_n 2, 1) := by decide +kernel
theorem dX1_rankOf_36 : decode cX1_rankOf 36 = .ok (.if_icmp .lt 15, 3) := by decide +kernel
theorem dX1_rankOf_39 : decode cX1_rankOf 39 = .ok (.iload 5, 2) := by decide +kernel
theorem dX1_rankOf_41 : decode cX1_rankOf 41 = .ok (.iload_n 2, 1) := by decide +kernel
theorem dX1_rankOf_42 : decode cX1_rankOf 42 = .ok (.if_icmp .ne 12, 3) := by decide +kernel
theorem dX1_rankOf_45 : decode cX1_rankOf 45 = .ok (.iload 4, 2) := by decide +kernel
theorem dX1_rankOf_47 : decode cX1_rankOf 47 = .ok (.iload_n 1, 1) := by decide +kernel
theorem dX1_rankOf_48 : decode cX1_rankOf 48 = .ok (.if_icmp .ge 6, 3) := by decide +kernel
theorem dX1_rankOf_51 : decode cX1_rankOf 51 = .ok (.iinc 3 1, 3) := by decide +kernel
theorem dX1_rankOf_54 : decode cX1_rankOf 54 = .ok (.iinc 4 1, 3) := by decide +kernel
theorem dX1_rankOf_57 : decode cX1_rankOf 57 = .ok (.goto (-46), 3) := by decide +kernel
theorem dX1_rankOf_60 : decode cX1_rankOf 60 = .ok (.iload_n 3, 1) := by decide +kernel
theorem dX1_rankOf_61 : decode cX1_rankOf 61 = .ok (.ireturn, 1) := by decide +kernel
set_option maxRecDepth 20000 in
theorem ggX1_windowOfRank_X1_rankOf : GoodIn wsX1_windowOfRank wsX1_rankOf := goodIn_r _ [6, 1, 7, 8, 9, 5, 10, 11, 12, 13, 14, 15, 16, 17, 18, 19, 20, 21] (by decide +kernel) (by decide +kernel)
set_option maxRecDepth 20000 in
theorem gX1_windowOfRank_X1_rankOf : GoodIn wsX1_windowOfRank (wsV RX1 145 RX1 yX1_rankOf wsX1_rankOf) := goodIn_app (goodIn_of _ (by decide +kernel)) ggX1_windowOfRank_X1_rankOf
theorem dX1_windowOfRank_0 : decode cX1_windowOfRank 0 = .ok (.iconst 0, 1) := by decide +kernel
theorem dX1_windowOfRank_1 : decode cX1_windowOfRank 1 = .ok (.istore_n 2, 1) := by decide +kernel
theorem dX1_windowOfRank_2 : decode cX1_windowOfRank 2 = .ok (.iload_n 2, 1) := by decide +kernel
theorem dX1_windowOfRank_3 : decode cX1_windowOfRank 3 = .ok (.sipush 160, 3) := by decide +kernel
theorem dX1_windowOfRank_6 : decode cX1_windowOfRank 6 = .ok (.if_icmp .ge 29, 3) := by decide +kernel
theorem dX1_windowOfRank_9 : decode cX1_windowOfRank 9 = .ok (.aload_n 0, 1) := by decide +kernel
theorem dX1_windowOfRank_10 : decode cX1_windowOfRank 10 = .ok (.getfield 15, 3) := by decide +kernel
theorem dX1_windowOfRank_13 : decode cX1_windowOfRank 13 = .ok (.iload_n 2, 1) := by decide +kernel
theorem dX1_windowOfRank_14 : decode cX1_windowOfRank 14 = .ok (.iaload, 1) := by decide +kernel
theorem dX1_windowOfRank_15 : decode cX1_windowOfRank 15 = .ok (.ifCond .lt 14, 3) := by decide +kernel
theorem dX1_windowOfRank_18 : decode cX1_windowOfRank 18 = .ok (.aload_n 0, 1) := by decide +kernel
theorem dX1_windowOfRank_19 : decode cX1_windowOfRank 19 = .ok (.iload_n 2, 1) := by decide +kernel
theorem dX1_windowOfRank_20 : decode cX1_windowOfRank 20 = .ok (.invokevirtual 145, 3) := by decide +kernel
theorem dX1_windowOfRank_23 : decode cX1_windowOfRank 23 = .ok (.iload_n 1, 1) := by decide +kernel
theorem dX1_windowOfRank_24 : decode cX1_windowOfRank 24 = .ok (.if_icmp .ne 5, 3) := by decide +kernel
theorem dX1_windowOfRank_27 : decode cX1_windowOfRank 27 = .ok (.iload_n 2, 1) := by decide +kernel
theorem dX1_windowOfRank_28 : decode cX1_windowOfRank 28 = .ok (.ireturn, 1) := by decide +kernel
theorem dX1_windowOfRank_29 : decode cX1_windowOfRank 29 = .ok (.iinc 2 1, 3) := by decide +kernel
theorem dX1_windowOfRank_32 : decode cX1_windowOfRank 32 = .ok (.goto (-30), 3) := by decide +kernel
theorem dX1_windowOfRank_35 : decode cX1_windowOfRank 35 = .ok (.bipush (-2), 2) := by decide +kernel
theorem dX1_windowOfRank_37 : decode cX1_windowOfRank 37 = .ok (.ireturn, 1) := by decide +kernel
theorem dX1_turnCount_0 : decode cX1_turnCount 0 = .ok (.iconst 0, 1) := by decide +kernel
theorem dX1_turnCount_1 : decode cX1_turnCount 1 = .ok (.istore_n 1, 1) := by decide +kernel
theorem dX1_turnCount_2 : decode cX1_turnCount 2 = .ok (.iconst (-1), 1) := by decide +kernel
theorem dX1_turnCount_3 : decode cX1_turnCount 3 = .ok (.istore_n 2, 1) := by decide +kernel
theorem dX1_turnCount_4 : decode cX1_turnCount 4 = .ok (.iconst 0, 1) := by decide +kernel
theorem dX1_turnCount_5 : decode cX1_turnCount 5 = .ok (.istore_n 3, 1) := by decide +kernel
theorem dX1_turnCount_6 : decode cX1_turnCount 6 = .ok (.iconst 0, 1) := by decide +kernel
theorem dX1_turnCount_7 : decode cX1_turnCount 7 = .ok (.istore 4, 2) := by decide +kernel
theorem dX1_turnCount_9 : decode cX1_turnCount 9 = .ok (.iload 4, 2) := by decide +kernel
theorem dX1_turnCount_11 : decode cX1_turnCount 11 = .ok (.sipush 160, 3) := by decide +kernel
theorem dX1_turnCount_14 : decode cX1_turnCount 14 = .ok (.if_icmp .ge 68, 3) := by decide +kernel
theorem dX1_turnCount_17 : decode cX1_turnCount 17 = .ok (.aload_n 0, 1) := by decide +kernel
theorem dX1_turnCount_18 : decode cX1_turnCount 18 = .ok (.getfield 15, 3) := by decide +kernel
theorem dX1_turnCount_21 : decode cX1_turnCount 21 = .ok (.iload 4, 2) := by decide +kernel
theorem dX1_turnCount_23 : decode cX1_turnCount 23 = .ok (.iaload, 1) := by decide +kernel
theorem dX1_turnCount_24 : decode cX1_turnCount 24 = .ok (.istore 5, 2) := by decide +kernel
theorem dX1_turnCount_26 : decode cX1_turnCount 26 = .ok (.iload 5, 2) := by decide +kernel
theorem dX1_turnCount_28 : decode cX1_turnCount 28 = .ok (.ifCond .ge 6, 3) := by decide +kernel
theorem dX1_turnCount_31 : decode cX1_turnCount 31 = .ok (.goto 45, 3) := by decide +kernel
theorem dX1_turnCount_34 : decode cX1_turnCount 34 = .ok (.iload_n 2, 1) := by decide +kernel
theorem dX1_turnCount_35 : decode cX1_turnCount 35 = .ok (.ifCond .lt 14, 3) := by decide +kernel
theorem dX1_turnCount_38 : decode cX1_turnCount 38 = .ok (.iload 5, 2) := by decide +kernel
theorem dX1_turnCount_40 : decode cX1_turnCount 40 = .ok (.iload_n 2, 1) := by decide +kernel
theorem dX1_turnCount_41 : decode cX1_turnCount 41 = .ok (.if_icmp .ge 8, 3) := by decide +kernel
theorem dX1_turnCount_44 : decode cX1_turnCount 44 = .ok (.iconst 1, 1) := by decide +kernel
theorem dX1_turnCount_45 : decode cX1_turnCount 45 = .ok (.istore_n 3, 1) := by decide +kernel
theorem dX1_turnCount_46 : decode cX1_turnCount 46 = .ok (.goto 27, 3) := by decide +kernel
theorem dX1_turnCount_49 : decode cX1_turnCount 49 = .ok (.iload_n 2, 1) := by decide +kernel
theorem dX1_turnCount_50 : decode cX1_turnCount 50 = .ok (.ifCond .lt 23, 3) := by decide +kernel
theorem dX1_turnCount_53 : decode cX1_turnCount 53 = .ok (.iload 5, 2) := by decide +kernel
theorem dX1_turnCount_55 : decode cX1_turnCount 55 = .ok (.iload_n 2, 1) := by decide +kernel
theorem dX1_turnCount_56 : decode cX1_turnCount 56 = .ok (.if_icmp .le 17, 3) := by decide +kernel
theorem dX1_turnCount_59 : decode cX1_turnCount 59 = .ok (.iload_n 1, 1) := by decide +kernel
theorem dX1_turnCount_60 : decode cX1_turnCount 60 = .ok (.iload_n 3, 1) := by decide +kernel
theorem dX1_turnCount_61 : decode cX1_turnCount 61 = .ok (.ifCond .eq 7, 3) := by decide +kernel
theorem dX1_turnCount_64 : decode cX1_turnCount 64 = .ok (.iconst 1, 1) := by decide +kernel
theorem dX1_turnCount_65 : decode cX1_turnCount 65 = .ok (.goto 4, 3) := by decide +kernel
theorem dX1_turnCount_68 : decode cX1_turnCount 68 = .ok (.iconst 0, 1) := by decide +kernel
theorem dX1_turnCount_69 : decode cX1_turnCount 69 = .ok (.iadd, 1) := by decide +kernel
theorem dX1_turnCount_70 : decode cX1_turnCount 70 = .ok (.istore_n 1, 1) := by decide +kernel
theorem dX1_turnCount_71 : decode cX1_turnCount 71 = .ok (.iconst 0, 1) := by decide +kernel
theorem dX1_turnCount_72 : decode cX1_turnCount 72 = .ok (.istore_n 3, 1) := by decide +kernel
theorem dX1_turnCount_73 : decode cX1_turnCount 73 = .ok (.iload 5, 2) := by decide +kernel
theorem dX1_turnCount_75 : decode cX1_turnCount 75 = .ok (.istore_n 2, 1) := by decide +kernel
theorem dX1_turnCount_76 : decode cX1_turnCount 76 = .ok (.iinc 4 1, 3) := by decide +kernel
theorem dX1_turnCount_79 : decode cX1_turnCount 79 = .ok (.goto (-70), 3) := by decide +kernel
theorem dX1_turnCount_82 : decode cX1_turnCount 82 = .ok (.iload_n 1, 1) := by decide +kernel
theorem dX1_turnCount_83 : decode cX1_turnCount 83 = .ok (.ireturn, 1) := by decide +kernel
set_option maxRecDepth 20000 in
theorem ggX1_slackSum_X7_valueOf : GoodIn wsX1_slackSum wsX7_valueOf := goodIn_r _ [15, 16, 181] (by decide +kernel) (by decide +kernel)
set_option maxRecDepth 20000 in
theorem gX1_slackSum_X7_valueOf : GoodIn wsX1_slackSum (wsV RX1 49 RX7 yX7_valueOf wsX7_valueOf) := goodIn_app (goodIn_of _ (by decide +kernel)) ggX1_slackSum_X7_valueOf
set_option maxRecDepth 20000 in
theorem ggX1_slackSum_X0_openQuery : GoodIn wsX1_slackSum wsX0_openQuery := goodIn_r _ [21, 22, 23, 24, 25, 26, 27, 28, 29, 30, 31, 32, 33, 34, 35, 36, 37, 38, 39, 20, 40, 41, 42, 12, 13, 14, 15, 16, 43, 44, 45, 46, 47, 48, 49, 9, 50, 51, 8, 10, 52, 53, 54, 55, 56, 57, 58, 59, 60, 61, 62, 63, 64, 65, 66, 67, 68, 69, 70, 71, 72, 73, 74, 75, 76, 77, 78, 79, 80, 81, 82, 83, 84, 173, 174, 175, 176, 177, 182, 183, 184, 185, 186, 187, 188, 189, 190, 191, 192, 193, 194, 181] (by decide +kernel) (by decide +kernel)
set_option maxRecDepth 20000 in
theorem gX1_slackSum_X0_openQuery : GoodIn wsX1_slackSum (wsV RX1 55 RX0 yX0_openQuery wsX0_openQuery) := goodIn_app (goodIn_of _ (by decide +kernel)) ggX1_slackSum_X0_openQuery
set_option maxRecDepth 20000 in
theorem ggX1_slackSum_X4_lengthOf : GoodIn wsX1_slackSum wsX4_lengthOf := goodIn_r _ [30, 31, 32, 33, 34, 29, 35, 36, 192, 193, 194] (by decide +kernel) (by decide +kernel)
set_option maxRecDepth 20000 in
theorem gX1_slackSum_X4_lengthOf : GoodIn wsX1_slackSum (wsV RX1 65 RX4 yX4_lengthOf wsX4_lengthOf) := goodIn_app (goodIn_of _ (by decide +kernel)) ggX1_slackSum_X4_lengthOf
set_option maxRecDepth 20000 in
theorem ggX1_slackSum_X6_hasWindow : GoodIn wsX1_slackSum wsX6_hasWindow := goodIn_r _ [90, 91, 92, 93, 94, 89, 95, 96, 97, 98, 99, 100, 101, 178, 179, 180] (by decide +kernel) (by decide +kernel)
set_option maxRecDepth 20000 in
theorem gX1_slackSum_X6_hasWindow : GoodIn wsX1_slackSum (wsV RX1 70 RX6 yX6_hasWindow wsX6_hasWindow) := goodIn_app (goodIn_of _ (by decide +kernel)) ggX1_slackSum_X6_hasWindow
set_option maxRecDepth 20000 in
theorem ggX1_slackSum_X0_laySecondWindow : GoodIn wsX1_slackSum wsX0_laySecondWindow := goodIn_r _ [105, 106, 41, 23, 107, 25, 108, 109, 110, 89, 111, 96, 97, 98, 99, 91, 100, 101, 42, 12, 13, 14, 15, 16, 65, 66, 67, 46, 68, 52, 69, 70, 71, 72, 73, 74, 75, 76, 77, 78, 79, 80, 81, 82, 83, 84, 48, 49, 9, 50, 51, 8, 10, 173, 174, 175, 176, 177, 182, 183, 184, 185, 186, 187, 188, 189, 190, 191, 178, 179, 180, 181] (by decide +kernel) (by decide +kernel)
set_option maxRecDepth 20000 in
theorem gX1_slackSum_X0_laySecondWindow : GoodIn wsX1_slackSum (wsV RX1 74 RX0 yX0_laySecondWindow wsX0_laySecondWindow) := goodIn_app (goodIn_of _ (by decide +kernel)) ggX1_slackSum_X0_laySecondWindow
set_option maxRecDepth 20000 in
theorem ggX1_slackSum_X2_endsBound : GoodIn wsX1_slackSum wsX2_endsBound := goodIn_r _ [115, 52, 116, 117, 118, 119, 120, 46, 121, 54, 182, 183, 184, 185, 186, 187, 188, 189, 190, 191] (by decide +kernel) (by decide +kernel)
set_option maxRecDepth 20000 in
theorem gX1_slackSum_X2_endsBound : GoodIn wsX1_slackSum (wsV RX1 148 RX2 yX2_endsBound wsX2_endsBound) := goodIn_app (goodIn_of _ (by decide +kernel)) ggX1_slackSum_X2_endsBound
set_option maxRecDepth 20000 in
theorem ggX1_slackSum_X2_overBound : GoodIn wsX1_slackSum wsX2_overBound := goodIn_r _ [125, 117, 116, 126, 127, 128, 46, 129, 52, 130, 131, 132, 133, 53, 51, 8, 9, 10, 48, 49, 50, 118, 119, 120, 121, 54, 182, 183, 184, 185, 186, 187, 188, 189, 190, 191] (by decide +kernel) (by decide +kernel)
set_option maxRecDepth 20000 in
theorem gX1_slackSum_X2_overBound : GoodIn wsX1_slackSum (wsV RX1 151 RX2 yX2_overBound wsX2_overBound) := goodIn_app (goodIn_of _ (by decide +kernel)) ggX1_slackSum_X2_overBound
set_option maxRecDepth 20000 in
theorem ggX1_slackSum_X2_backBound : GoodIn wsX1_slackSum wsX2_backBound := goodIn_r _ [137, 116, 117, 126, 127, 128, 46, 129, 52, 130, 131, 132, 133, 53, 51, 8, 9, 10, 48, 49, 50, 118, 119, 120, 121, 54, 182, 183, 184, 185, 186, 187, 188, 189, 190, 191] (by decide +kernel) (by decide +kernel)
set_option maxRecDepth 20000 in
theorem gX1_slackSum_X2_backBound : GoodIn wsX1_slackSum (wsV RX1 154 RX2 yX2_backBound wsX2_backBound) := goodIn_app (goodIn_of _ (by decide +kernel)) ggX1_slackSum_X2_backBound
set_option maxRecDepth 20000 in
theorem ggX1_slackSum_X2_wholeDistance : GoodIn wsX1_slackSum wsX2_wholeDistance := goodIn_r _ [141, 142, 143, 144, 145, 46, 146, 147, 148, 52, 149, 150, 151, 152, 53, 51, 8, 9, 10, 48, 49, 50, 116, 117, 153, 118, 119, 120, 121, 54, 154, 155, 156, 157, 158, 159, 160, 161, 182, 183, 184, 185, 186, 187, 188, 189, 190, 191] (by decide +kernel) (by decide +kernel)
set_option maxRecDepth 20000 in
theorem gX1_slackSum_X2_wholeDistance : GoodIn wsX1_slackSum (wsV RX1 113 RX2 yX2_wholeDistance wsX2_wholeDistance) := goodIn_app (goodIn_of _ (by decide +kernel)) ggX1_slackSum_X2_wholeDistance
theorem dX1_slackSum_0 : decode cX1_slackSum 0 = .ok (.iconst 0, 1) := by decide +kernel
theorem dX1_slackSum_1 : decode cX1_slackSum 1 = .ok (.istore_n 2, 1) := by decide +kernel
theorem dX1_slackSum_2 : decode cX1_slackSum 2 = .ok (.aload_n 0, 1) := by decide +kernel
theorem dX1_slackSum_3 : decode cX1_slackSum 3 = .ok (.getfield 28, 3) := by decide +kernel
theorem dX1_slackSum_6 : decode cX1_slackSum 6 = .ok (.iload_n 1, 1) := by decide +kernel
theorem dX1_slackSum_7 : decode cX1_slackSum 7 = .ok (.aload_n 0, 1) := by decide +kernel
theorem dX1_slackSum_8 : decode cX1_slackSum 8 = .ok (.getfield 28, 3) := by decide +kernel
theorem dX1_slackSum_11 : decode cX1_slackSum 11 = .ok (.getfield 45, 3) := by decide +kernel
theorem dX1_slackSum_14 : decode cX1_slackSum 14 = .ok (.iconst 0, 1) := by decide +kernel
theorem dX1_slackSum_15 : decode cX1_slackSum 15 = .ok (.invokevirtual 49, 3) := by decide +kernel
theorem dX1_slackSum_18 : decode cX1_slackSum 18 = .ok (.invokevirtual 55, 3) := by decide +kernel
theorem dX1_slackSum_21 : decode cX1_slackSum 21 = .ok (.iconst 0, 1) := by decide +kernel
theorem dX1_slackSum_22 : decode cX1_slackSum 22 = .ok (.istore_n 3, 1) := by decide +kernel
theorem dX1_slackSum_23 : decode cX1_slackSum 23 = .ok (.iload_n 3, 1) := by decide +kernel
theorem dX1_slackSum_24 : decode cX1_slackSum 24 = .ok (.aload_n 0, 1) := by decide +kernel
theorem dX1_slackSum_25 : decode cX1_slackSum 25 = .ok (.getfield 38, 3) := by decide +kernel
theorem dX1_slackSum_28 : decode cX1_slackSum 28 = .ok (.getfield 59, 3) := by decide +kernel
theorem dX1_slackSum_31 : decode cX1_slackSum 31 = .ok (.if_icmp .ge 79, 3) := by decide +kernel
theorem dX1_slackSum_34 : decode cX1_slackSum 34 = .ok (.aload_n 0, 1) := by decide +kernel
theorem dX1_slackSum_35 : decode cX1_slackSum 35 = .ok (.getfield 38, 3) := by decide +kernel
theorem dX1_slackSum_38 : decode cX1_slackSum 38 = .ok (.iload_n 3, 1) := by decide +kernel
theorem dX1_slackSum_39 : decode cX1_slackSum 39 = .ok (.aload_n 0, 1) := by decide +kernel
theorem dX1_slackSum_40 : decode cX1_slackSum 40 = .ok (.getfield 43, 3) := by decide +kernel
theorem dX1_slackSum_43 : decode cX1_slackSum 43 = .ok (.iload_n 1, 1) := by decide +kernel
theorem dX1_slackSum_44 : decode cX1_slackSum 44 = .ok (.invokevirtual 65, 3) := by decide +kernel
theorem dX1_slackSum_47 : decode cX1_slackSum 47 = .ok (.invokevirtual 70, 3) := by decide +kernel
theorem dX1_slackSum_50 : decode cX1_slackSum 50 = .ok (.ifCond .eq 54, 3) := by decide +kernel
theorem dX1_slackSum_53 : decode cX1_slackSum 53 = .ok (.aload_n 0, 1) := by decide +kernel
theorem dX1_slackSum_54 : decode cX1_slackSum 54 = .ok (.getfield 28, 3) := by decide +kernel
theorem dX1_slackSum_57 : decode cX1_slackSum 57 = .ok (.iload_n 3, 1) := by decide +kernel
theorem dX1_slackSum_58 : decode cX1_slackSum 58 = .ok (.invokevirtual 74, 3) := by decide +kernel
theorem dX1_slackSum_61 : decode cX1_slackSum 61 = .ok (.aload_n 0, 1) := by decide +kernel
theorem dX1_slackSum_62 : decode cX1_slackSum 62 = .ok (.getfield 28, 3) := by decide +kernel
theorem dX1_slackSum_65 : decode cX1_slackSum 65 = .ok (.getfield 78, 3) := by decide +kernel
theorem dX1_slackSum_68 : decode cX1_slackSum 68 = .ok (.astore 4, 2) := by decide +kernel
theorem dX1_slackSum_70 : decode cX1_slackSum 70 = .ok (.aload 4, 2) := by decide +kernel
theorem dX1_slackSum_72 : decode cX1_slackSum 72 = .ok (.invokevirtual 148, 3) := by decide +kernel
theorem dX1_slackSum_75 : decode cX1_slackSum 75 = .ok (.aload 4, 2) := by decide +kernel
theorem dX1_slackSum_77 : decode cX1_slackSum 77 = .ok (.invokevirtual 151, 3) := by decide +kernel
theorem dX1_slackSum_80 : decode cX1_slackSum 80 = .ok (.aload 4, 2) := by decide +kernel
theorem dX1_slackSum_82 : decode cX1_slackSum 82 = .ok (.invokevirtual 154, 3) := by decide +kernel
theorem dX1_slackSum_85 : decode cX1_slackSum 85 = .ok (.invokestatic 157, 3) := by decide +kernel
theorem dX1_slackSum_88 : decode cX1_slackSum 88 = .ok (.invokestatic 157, 3) := by decide +kernel
theorem dX1_slackSum_91 : decode cX1_slackSum 91 = .ok (.istore 5, 2) := by decide +kernel
theorem dX1_slackSum_93 : decode cX1_slackSum 93 = .ok (.iload_n 2, 1) := by decide +kernel
theorem dX1_slackSum_94 : decode cX1_slackSum 94 = .ok (.aload 4, 2) := by decide +kernel
theorem dX1_slackSum_96 : decode cX1_slackSum 96 = .ok (.invokevirtual 113, 3) := by decide +kernel
theorem dX1_slackSum_99 : decode cX1_slackSum 99 = .ok (.iload 5, 2) := by decide +kernel
theorem dX1_slackSum_101 : decode cX1_slackSum 101 = .ok (.isub, 1) := by decide +kernel
theorem dX1_slackSum_102 : decode cX1_slackSum 102 = .ok (.iadd, 1) := by decide +kernel
theorem dX1_slackSum_103 : decode cX1_slackSum 103 = .ok (.istore_n 2, 1) := by decide +kernel
theorem dX1_slackSum_104 : decode cX1_slackSum 104 = .ok (.iinc 3 1, 3) := by decide +kernel
theorem dX1_slackSum_107 : decode cX1_slackSum 107 = .ok (.goto (-84), 3) := by decide +kernel
theorem dX1_slackSum_110 : decode cX1_slackSum 110 = .ok (.iload_n 2, 1) := by decide +kernel
theorem dX1_slackSum_111 : decode cX1_slackSum 111 = .ok (.ireturn, 1) := by decide +kernel
set_option maxRecDepth 20000 in
theorem ggX1_nearestQuery_X4_lengthOf : GoodIn wsX1_nearestQuery wsX4_lengthOf := goodIn_r _ [10, 11, 12, 13, 14, 9, 15, 16, 159, 160, 161] (by decide +kernel) (by decide +kernel)
set_option maxRecDepth 20000 in
theorem gX1_nearestQuery_X4_lengthOf : GoodIn wsX1_nearestQuery (wsV RX1 65 RX4 yX4_lengthOf wsX4_lengthOf) := goodIn_app (goodIn_of _ (by decide +kernel)) ggX1_nearestQuery_X4_lengthOf
set_option maxRecDepth 20000 in
theorem ggX1_nearestQuery_X0_openBoth : GoodIn wsX1_nearestQuery wsX0_openBoth := goodIn_r _ [21, 22, 23, 24, 25, 20, 26, 27, 28, 29, 13, 14, 9, 15, 16, 30, 7, 8, 10, 11, 12, 31, 32, 33, 34, 35, 36, 37, 38, 39, 40, 41, 42, 43, 44, 45, 46, 47, 48, 49, 50, 51, 52, 53, 54, 55, 56, 57, 58, 59, 60, 61, 62, 63, 64, 65, 66, 67, 68, 69, 70, 71, 72, 73, 74, 75, 76, 77, 78, 79, 80, 81, 82, 83, 84, 85, 86, 87, 88, 89, 90, 91, 92, 93, 94, 95, 96, 97, 98, 99, 100, 101, 102, 103, 104, 105, 106, 107, 108, 109, 110, 111, 112, 113, 114, 115, 116, 117, 162, 163, 164, 165, 166, 159, 160, 161, 167, 168, 169, 170, 171, 172, 173, 174, 175, 176, 177, 178, 179, 180] (by decide +kernel) (by decide +kernel)
set_option maxRecDepth 20000 in
theorem gX1_nearestQuery_X0_openBoth : GoodIn wsX1_nearestQuery (wsV RX1 162 RX0 yX0_openBoth wsX0_openBoth) := goodIn_app (goodIn_of _ (by decide +kernel)) ggX1_nearestQuery_X0_openBoth
set_option maxRecDepth 20000 in
theorem ggX1_nearestQuery_X2_wholeDistance : GoodIn wsX1_nearestQuery wsX2_wholeDistance := goodIn_r _ [121, 122, 123, 124, 125, 67, 126, 127, 128, 76, 129, 130, 131, 132, 77, 73, 74, 71, 75, 69, 70, 72, 133, 134, 135, 136, 137, 138, 139, 78, 140, 141, 142, 143, 144, 145, 146, 147, 171, 172, 173, 174, 175, 176, 177, 178, 179, 180] (by decide +kernel) (by decide +kernel)
set_option maxRecDepth 20000 in
theorem gX1_nearestQuery_X2_wholeDistance : GoodIn wsX1_nearestQuery (wsV RX1 113 RX2 yX2_wholeDistance wsX2_wholeDistance) := goodIn_app (goodIn_of _ (by decide +kernel)) ggX1_nearestQuery_X2_wholeDistance
theorem dX1_nearestQuery_0 : decode cX1_nearestQuery 0 = .ok (.bipush (-2), 2) := by decide +kernel
theorem dX1_nearestQuery_2 : decode cX1_nearestQuery 2 = .ok (.istore_n 3, 1) := by decide +kernel
theorem dX1_nearestQuery_3 : decode cX1_nearestQuery 3 = .ok (.ldc 44, 2) := by decide +kernel
theorem dX1_nearestQuery_5 : decode cX1_nearestQuery 5 = .ok (.istore 4, 2) := by decide +kernel
theorem dX1_nearestQuery_7 : decode cX1_nearestQuery 7 = .ok (.iconst 0, 1) := by decide +kernel
theorem dX1_nearestQuery_8 : decode cX1_nearestQuery 8 = .ok (.istore 5, 2) := by decide +kernel
theorem dX1_nearestQuery_10 : decode cX1_nearestQuery 10 = .ok (.iload 5, 2) := by decide +kernel
theorem dX1_nearestQuery_12 : decode cX1_nearestQuery 12 = .ok (.aload_n 0, 1) := by decide +kernel
theorem dX1_nearestQuery_13 : decode cX1_nearestQuery 13 = .ok (.getfield 43, 3) := by decide +kernel
theorem dX1_nearestQuery_16 : decode cX1_nearestQuery 16 = .ok (.getfield 161, 3) := by decide +kernel
theorem dX1_nearestQuery_19 : decode cX1_nearestQuery 19 = .ok (.if_icmp .ge 61, 3) := by decide +kernel
theorem dX1_nearestQuery_22 : decode cX1_nearestQuery 22 = .ok (.aload_n 0, 1) := by decide +kernel
theorem dX1_nearestQuery_23 : decode cX1_nearestQuery 23 = .ok (.getfield 43, 3) := by decide +kernel
theorem dX1_nearestQuery_26 : decode cX1_nearestQuery 26 = .ok (.iload 5, 2) := by decide +kernel
theorem dX1_nearestQuery_28 : decode cX1_nearestQuery 28 = .ok (.invokevirtual 65, 3) := by decide +kernel
theorem dX1_nearestQuery_31 : decode cX1_nearestQuery 31 = .ok (.iload_n 2, 1) := by decide +kernel
theorem dX1_nearestQuery_32 : decode cX1_nearestQuery 32 = .ok (.if_icmp .ne 42, 3) := by decide +kernel
theorem dX1_nearestQuery_35 : decode cX1_nearestQuery 35 = .ok (.aload_n 0, 1) := by decide +kernel
theorem dX1_nearestQuery_36 : decode cX1_nearestQuery 36 = .ok (.getfield 28, 3) := by decide +kernel
theorem dX1_nearestQuery_39 : decode cX1_nearestQuery 39 = .ok (.iload 5, 2) := by decide +kernel
theorem dX1_nearestQuery_41 : decode cX1_nearestQuery 41 = .ok (.iload_n 1, 1) := by decide +kernel
theorem dX1_nearestQuery_42 : decode cX1_nearestQuery 42 = .ok (.invokevirtual 162, 3) := by decide +kernel
theorem dX1_nearestQuery_45 : decode cX1_nearestQuery 45 = .ok (.ifCond .eq 29, 3) := by decide +kernel
theorem dX1_nearestQuery_48 : decode cX1_nearestQuery 48 = .ok (.aload_n 0, 1) := by decide +kernel
theorem dX1_nearestQuery_49 : decode cX1_nearestQuery 49 = .ok (.getfield 28, 3) := by decide +kernel
theorem dX1_nearestQuery_52 : decode cX1_nearestQuery 52 = .ok (.getfield 78, 3) := by decide +kernel
theorem dX1_nearestQuery_55 : decode cX1_nearestQuery 55 = .ok (.invokevirtual 113, 3) := by decide +kernel
theorem dX1_nearestQuery_58 : decode cX1_nearestQuery 58 = .ok (.istore 6, 2) := by decide +kernel
theorem dX1_nearestQuery_60 : decode cX1_nearestQuery 60 = .ok (.iload 6, 2) := by decide +kernel
theorem dX1_nearestQuery_62 : decode cX1_nearestQuery 62 = .ok (.iload 4, 2) := by decide +kernel
theorem dX1_nearestQuery_64 : decode cX1_nearestQuery 64 = .ok (.if_icmp .ge 10, 3) := by decide +kernel
theorem dX1_nearestQuery_67 : decode cX1_nearestQuery 67 = .ok (.iload 6, 2) := by decide +kernel
theorem dX1_nearestQuery_69 : decode cX1_nearestQuery 69 = .ok (.istore 4, 2) := by decide +kernel
theorem dX1_nearestQuery_71 : decode cX1_nearestQuery 71 = .ok (.iload 5, 2) := by decide +kernel
theorem dX1_nearestQuery_73 : decode cX1_nearestQuery 73 = .ok (.istore_n 3, 1) := by decide +kernel
theorem dX1_nearestQuery_74 : decode cX1_nearestQuery 74 = .ok (.iinc 5 1, 3) := by decide +kernel
theorem dX1_nearestQuery_77 : decode cX1_nearestQuery 77 = .ok (.goto (-67), 3) := by decide +kernel
theorem dX1_nearestQuery_80 : decode cX1_nearestQuery 80 = .ok (.iload_n 3, 1) := by decide +kernel
theorem dX1_nearestQuery_81 : decode cX1_nearestQuery 81 = .ok (.ireturn, 1) := by decide +kernel
set_option maxRecDepth 20000 in
theorem ggX1_firedBits_X4_lengthOf : GoodIn wsX1_firedBits wsX4_lengthOf := goodIn_r _ [11, 12, 13, 14, 15, 10, 16, 17, 160, 161, 162] (by decide +kernel) (by decide +kernel)
set_option maxRecDepth 20000 in
theorem gX1_firedBits_X4_lengthOf : GoodIn wsX1_firedBits (wsV RX1 65 RX4 yX4_lengthOf wsX4_lengthOf) := goodIn_app (goodIn_of _ (by decide +kernel)) ggX1_firedBits_X4_lengthOf
set_option maxRecDepth 20000 in
theorem ggX1_firedBits_X0_openBoth : GoodIn wsX1_firedBits wsX0_openBoth := goodIn_r _ [22, 23, 24, 25, 26, 21, 27, 28, 29, 30, 14, 15, 10, 16, 17, 31, 8, 9, 11, 12, 13, 32, 33, 34, 35, 36, 37, 38, 39, 40, 41, 42, 43, 44, 45, 46, 47, 48, 49, 50, 51, 52, 53, 54, 55, 56, 57, 58, 59, 60, 61, 62, 63, 64, 65, 66, 67, 68, 69, 70, 71, 72, 73, 74, 75, 76, 77, 78, 79, 80, 81, 82, 83, 84, 85, 86, 87, 88, 89, 90, 91, 92, 93, 94, 95, 96, 97, 98, 99, 100, 101, 102, 103, 104, 105, 106, 107, 108, 109, 110, 111, 112, 113, 114, 115, 116, 117, 118, 166, 167, 168, 169, 170, 160, 161, 162, 163, 164, 165, 171, 172, 173, 174, 175, 176, 177, 178, 179, 180, 181] (by decide +kernel) (by decide +kernel)
set_option maxRecDepth 20000 in
theorem gX1_firedBits_X0_openBoth : GoodIn wsX1_firedBits (wsV RX1 162 RX0 yX0_openBoth wsX0_openBoth) := goodIn_app (goodIn_of _ (by decide +kernel)) ggX1_firedBits_X0_openBoth
set_option maxRecDepth 20000 in
theorem ggX1_firedBits_X2_wholeDistance : GoodIn wsX1_firedBits wsX2_wholeDistance := goodIn_r _ [122, 123, 124, 125, 126, 68, 127, 128, 129, 77, 130, 131, 132, 133, 78, 74, 75, 72, 76, 70, 71, 73, 134, 135, 136, 137, 138, 139, 140, 79, 141, 142, 143, 144, 145, 146, 147, 148, 172, 173, 174, 175, 176, 177, 178, 179, 180, 181] (by decide +kernel) (by decide +kernel)
set_option maxRecDepth 20000 in
theorem gX1_firedBits_X2_wholeDistance : GoodIn wsX1_firedBits (wsV RX1 113 RX2 yX2_wholeDistance wsX2_wholeDistance) := goodIn_app (goodIn_of _ (by decide +kernel)) ggX1_firedBits_X2_wholeDistance
theorem dX1_firedBits_0 : decode cX1_firedBits 0 = .ok (.iconst 0, 1) := by decide +kernel
theorem dX1_firedBits_1 : decode cX1_firedBits 1 = .ok (.istore_n 2, 1) := by decide +kernel
theorem dX1_firedBits_2 : decode cX1_firedBits 2 = .ok (.iconst 0, 1) := by decide +kernel
theorem dX1_firedBits_3 : decode cX1_firedBits 3 = .ok (.istore_n 3, 1) := by decide +kernel
theorem dX1_firedBits_4 : decode cX1_firedBits 4 = .ok (.iload_n 3, 1) := by decide +kernel
theorem dX1_firedBits_5 : decode cX1_firedBits 5 = .ok (.aload_n 0, 1) := by decide +kernel
theorem dX1_firedBits_6 : decode cX1_firedBits 6 = .ok (.getfield 43, 3) := by decide +kernel
theorem dX1_firedBits_9 : decode cX1_firedBits 9 = .ok (.getfield 161, 3) := by decide +kernel
theorem dX1_firedBits_12 : decode cX1_firedBits 12 = .ok (.if_icmp .ge 60, 3) := by decide +kernel
theorem dX1_firedBits_15 : decode cX1_firedBits 15 = .ok (.aload_n 0, 1) := by decide +kernel
theorem dX1_firedBits_16 : decode cX1_firedBits 16 = .ok (.getfield 38, 3) := by decide +kernel
theorem dX1_firedBits_19 : decode cX1_firedBits 19 = .ok (.getfield 59, 3) := by decide +kernel
theorem dX1_firedBits_22 : decode cX1_firedBits 22 = .ok (.aload_n 0, 1) := by decide +kernel
theorem dX1_firedBits_23 : decode cX1_firedBits 23 = .ok (.getfield 43, 3) := by decide +kernel
theorem dX1_firedBits_26 : decode cX1_firedBits 26 = .ok (.iload_n 3, 1) := by decide +kernel
theorem dX1_firedBits_27 : decode cX1_firedBits 27 = .ok (.invokevirtual 65, 3) := by decide +kernel
theorem dX1_firedBits_30 : decode cX1_firedBits 30 = .ok (.isub, 1) := by decide +kernel
theorem dX1_firedBits_31 : decode cX1_firedBits 31 = .ok (.istore 4, 2) := by decide +kernel
theorem dX1_firedBits_33 : decode cX1_firedBits 33 = .ok (.aload_n 0, 1) := by decide +kernel
theorem dX1_firedBits_34 : decode cX1_firedBits 34 = .ok (.getfield 28, 3) := by decide +kernel
theorem dX1_firedBits_37 : decode cX1_firedBits 37 = .ok (.iload_n 3, 1) := by decide +kernel
theorem dX1_firedBits_38 : decode cX1_firedBits 38 = .ok (.iload 4, 2) := by decide +kernel
theorem dX1_firedBits_40 : decode cX1_firedBits 40 = .ok (.invokevirtual 162, 3) := by decide +kernel
theorem dX1_firedBits_43 : decode cX1_firedBits 43 = .ok (.ifCond .eq 23, 3) := by decide +kernel
theorem dX1_firedBits_46 : decode cX1_firedBits 46 = .ok (.aload_n 0, 1) := by decide +kernel
theorem dX1_firedBits_47 : decode cX1_firedBits 47 = .ok (.getfield 28, 3) := by decide +kernel
theorem dX1_firedBits_50 : decode cX1_firedBits 50 = .ok (.getfield 78, 3) := by decide +kernel
theorem dX1_firedBits_53 : decode cX1_firedBits 53 = .ok (.invokevirtual 113, 3) := by decide +kernel
theorem dX1_firedBits_56 : decode cX1_firedBits 56 = .ok (.iload_n 1, 1) := by decide +kernel
theorem dX1_firedBits_57 : decode cX1_firedBits 57 = .ok (.if_icmp .gt 9, 3) := by decide +kernel
theorem dX1_firedBits_60 : decode cX1_firedBits 60 = .ok (.iload_n 2, 1) := by decide +kernel
theorem dX1_firedBits_61 : decode cX1_firedBits 61 = .ok (.iconst 1, 1) := by decide +kernel
theorem dX1_firedBits_62 : decode cX1_firedBits 62 = .ok (.iload_n 3, 1) := by decide +kernel
theorem dX1_firedBits_63 : decode cX1_firedBits 63 = .ok (.ishl, 1) := by decide +kernel
theorem dX1_firedBits_64 : decode cX1_firedBits 64 = .ok (.ior, 1) := by decide +kernel
theorem dX1_firedBits_65 : decode cX1_firedBits 65 = .ok (.istore_n 2, 1) := by decide +kernel
theorem dX1_firedBits_66 : decode cX1_firedBits 66 = .ok (.iinc 3 1, 3) := by decide +kernel
theorem dX1_firedBits_69 : decode cX1_firedBits 69 = .ok (.goto (-65), 3) := by decide +kernel
theorem dX1_firedBits_72 : decode cX1_firedBits 72 = .ok (.iload_n 2, 1) := by decide +kernel
theorem dX1_firedBits_73 : decode cX1_firedBits 73 = .ok (.ireturn, 1) := by decide +kernel
theorem dX2_init_0 : decode cX2_init 0 = .ok (.aload_n 0, 1) := by decide +kernel
theorem dX2_init_1 : decode cX2_init 1 = .ok (.invokespecial 3, 3) := by decide +kernel
theorem dX2_init_4 : decode cX2_init 4 = .ok (.aload_n 0, 1) := by decide +kernel
theorem dX2_init_5 : decode cX2_init 5 = .ok (.bipush 16, 2) := by decide +kernel
theorem dX2_init_7 : decode cX2_init 7 = .ok (.newarray .int, 2) := by decide +kernel
theorem dX2_init_9 : decode cX2_init 9 = .ok (.putfield 9, 3) := by decide +kernel
theorem dX2_init_12 : decode cX2_init 12 = .ok (.aload_n 0, 1) := by decide +kernel
theorem dX2_init_13 : decode cX2_init 13 = .ok (.bipush 16, 2) := by decide +kernel
theorem dX2_init_15 : decode cX2_init 15 = .ok (.newarray .int, 2) := by decide +kernel
theorem dX2_init_17 : decode cX2_init 17 = .ok (.putfield 15, 3) := by decide +kernel
theorem dX2_init_20 : decode cX2_init 20 = .ok (.aload_n 0, 1) := by decide +kernel
theorem dX2_init_21 : decode cX2_init 21 = .ok (.sipush 256, 3) := by decide +kernel
theorem dX2_init_24 : decode cX2_init 24 = .ok (.newarray .int, 2) := by decide +kernel
theorem dX2_init_26 : decode cX2_init 26 = .ok (.putfield 18, 3) := by decide +kernel
theorem dX2_init_29 : decode cX2_init 29 = .ok (.aload_n 0, 1) := by decide +kernel
theorem dX2_init_30 : decode cX2_init 30 = .ok (.bipush 32, 2) := by decide +kernel
theorem dX2_init_32 : decode cX2_init 32 = .ok (.newarray .int, 2) := by decide +kernel
theorem dX2_init_34 : decode cX2_init 34 = .ok (.putfield 21, 3) := by decide +kernel
theorem dX2_init_37 : decode cX2_init 37 = .ok (.aload_n 0, 1) := by decide +kernel
theorem dX2_init_38 : decode cX2_init 38 = .ok (.iconst 1, 1) := by decide +kernel
theorem dX2_init_39 : decode cX2_init 39 = .ok (.putfield 24, 3) := by decide +kernel
theorem dX2_init_42 : decode cX2_init 42 = .ok (.return_, 1) := by decide +kernel
theorem dX2_begin_0 : decode cX2_begin 0 = .ok (.aload_n 0, 1) := by decide +kernel
theorem dX2_begin_1 : decode cX2_begin 1 = .ok (.iconst 1, 1) := by decide +kernel
theorem dX2_begin_2 : decode cX2_begin 2 = .ok (.iload_n 1, 1) := by decide +kernel
theorem dX2_begin_3 : decode cX2_begin 3 = .ok (.bipush 16, 2) := by decide +kernel
theorem dX2_begin_5 : decode cX2_begin 5 = .ok (.invokestatic 28, 3) := by decide +kernel
theorem dX2_begin_8 : decode cX2_begin 8 = .ok (.invokestatic 34, 3) := by decide +kernel
theorem dX2_begin_11 : decode cX2_begin 11 = .ok (.putfield 24, 3) := by decide +kernel
theorem dX2_begin_14 : decode cX2_begin 14 = .ok (.aload_n 0, 1) := by decide +kernel
theorem dX2_begin_15 : decode cX2_begin 15 = .ok (.iconst 0, 1) := by decide +kernel
theorem dX2_begin_16 : decode cX2_begin 16 = .ok (.iload_n 2, 1) := by decide +kernel
theorem dX2_begin_17 : decode cX2_begin 17 = .ok (.invokestatic 34, 3) := by decide +kernel
theorem dX2_begin_20 : decode cX2_begin 20 = .ok (.putfield 37, 3) := by decide +kernel
theorem dX2_begin_23 : decode cX2_begin 23 = .ok (.aload_n 0, 1) := by decide +kernel
theorem dX2_begin_24 : decode cX2_begin 24 = .ok (.iload_n 3, 1) := by decide +kernel
theorem dX2_begin_25 : decode cX2_begin 25 = .ok (.iconst 1, 1) := by decide +kernel
theorem dX2_begin_26 : decode cX2_begin 26 = .ok (.if_icmp .ne 7, 3) := by decide +kernel
theorem dX2_begin_29 : decode cX2_begin 29 = .ok (.iconst 1, 1) := by decide +kernel
theorem dX2_begin_30 : decode cX2_begin 30 = .ok (.goto 4, 3) := by decide +kernel
theorem dX2_begin_33 : decode cX2_begin 33 = .ok (.iconst 0, 1) := by decide +kernel
theorem dX2_begin_34 : decode cX2_begin 34 = .ok (.putfield 42, 3) := by decide +kernel
theorem dX2_begin_37 : decode cX2_begin 37 = .ok (.return_, 1) := by decide +kernel
set_option maxRecDepth 20000 in
theorem ggX2_takeLeft_X2_copyRow : GoodIn wsX2_takeLeft wsX2_copyRow := goodIn_r _ [6, 7, 8, 9, 10, 11, 12, 13, 14, 15, 16, 17] (by decide +kernel) (by decide +kernel)
set_option maxRecDepth 20000 in
theorem gX2_takeLeft_X2_copyRow : GoodIn wsX2_takeLeft (wsV RX2 46 RX2 yX2_copyRow wsX2_copyRow) := goodIn_app (goodIn_of _ (by decide +kernel)) ggX2_takeLeft_X2_copyRow
theorem dX2_takeLeft_0 : decode cX2_takeLeft 0 = .ok (.aload_n 0, 1) := by decide +kernel
theorem dX2_takeLeft_1 : decode cX2_takeLeft 1 = .ok (.aload_n 1, 1) := by decide +kernel
theorem dX2_takeLeft_2 : decode cX2_takeLeft 2 = .ok (.iload_n 2, 1) := by decide +kernel
theorem dX2_takeLeft_3 : decode cX2_takeLeft 3 = .ok (.aload_n 0, 1) := by decide +kernel
theorem dX2_takeLeft_4 : decode cX2_takeLeft 4 = .ok (.getfield 9, 3) := by decide +kernel
theorem dX2_takeLeft_7 : decode cX2_takeLeft 7 = .ok (.iconst 0, 1) := by decide +kernel
theorem dX2_takeLeft_8 : decode cX2_takeLeft 8 = .ok (.invokevirtual 46, 3) := by decide +kernel
theorem dX2_takeLeft_11 : decode cX2_takeLeft 11 = .ok (.return_, 1) := by decide +kernel
set_option maxRecDepth 20000 in
theorem ggX2_takeRight_X2_copyRow : GoodIn wsX2_takeRight wsX2_copyRow := goodIn_r _ [6, 7, 8, 9, 10, 11, 12, 13, 14, 15, 16, 17] (by decide +kernel) (by decide +kernel)
set_option maxRecDepth 20000 in
theorem gX2_takeRight_X2_copyRow : GoodIn wsX2_takeRight (wsV RX2 46 RX2 yX2_copyRow wsX2_copyRow) := goodIn_app (goodIn_of _ (by decide +kernel)) ggX2_takeRight_X2_copyRow
theorem dX2_takeRight_0 : decode cX2_takeRight 0 = .ok (.aload_n 0, 1) := by decide +kernel
theorem dX2_takeRight_1 : decode cX2_takeRight 1 = .ok (.aload_n 1, 1) := by decide +kernel
theorem dX2_takeRight_2 : decode cX2_takeRight 2 = .ok (.iload_n 2, 1) := by decide +kernel
theorem dX2_takeRight_3 : decode cX2_takeRight 3 = .ok (.aload_n 0, 1) := by decide +kernel
theorem dX2_takeRight_4 : decode cX2_takeRight 4 = .ok (.getfield 15, 3) := by decide +kernel
theorem dX2_takeRight_7 : decode cX2_takeRight 7 = .ok (.iconst 0, 1) := by decide +kernel
theorem dX2_takeRight_8 : decode cX2_takeRight 8 = .ok (.invokevirtual 46, 3) := by decide +kernel
theorem dX2_takeRight_11 : decode cX2_takeRight 11 = .ok (.return_, 1) := by decide +kernel
set_option maxRecDepth 20000 in
theorem ggX2_giveLeft_X2_copyRow : GoodIn wsX2_giveLeft wsX2_copyRow := goodIn_r _ [6, 7, 8, 9, 10, 11, 12, 13, 14, 15, 16, 17] (by decide +kernel) (by decide +kernel)
set_option maxRecDepth 20000 in
theorem gX2_giveLeft_X2_copyRow : GoodIn wsX2_giveLeft (wsV RX2 46 RX2 yX2_copyRow wsX2_copyRow) := goodIn_app (goodIn_of _ (by decide +kernel)) ggX2_giveLeft_X2_copyRow
theorem dX2_giveLeft_0 : decode cX2_giveLeft 0 = .ok (.aload_n 0, 1) := by decide +kernel
theorem dX2_giveLeft_1 : decode cX2_giveLeft 1 = .ok (.aload_n 0, 1) := by decide +kernel
theorem dX2_giveLeft_2 : decode cX2_giveLeft 2 = .ok (.getfield 9, 3) := by decide +kernel
theorem dX2_giveLeft_5 : decode cX2_giveLeft 5 = .ok (.iconst 0, 1) := by decide +kernel
theorem dX2_giveLeft_6 : decode cX2_giveLeft 6 = .ok (.aload_n 1, 1) := by decide +kernel
theorem dX2_giveLeft_7 : decode cX2_giveLeft 7 = .ok (.iload_n 2, 1) := by decide +kernel
theorem dX2_giveLeft_8 : decode cX2_giveLeft 8 = .ok (.invokevirtual 46, 3) := by decide +kernel
theorem dX2_giveLeft_11 : decode cX2_giveLeft 11 = .ok (.return_, 1) := by decide +kernel
theorem dX2_copyRow_0 : decode cX2_copyRow 0 = .ok (.iload_n 2, 1) := by decide +kernel
theorem dX2_copyRow_1 : decode cX2_copyRow 1 = .ok (.ifCond .lt 31, 3) := by decide +kernel
theorem dX2_copyRow_4 : decode cX2_copyRow 4 = .ok (.iload 4, 2) := by decide +kernel
theorem dX2_copyRow_6 : decode cX2_copyRow 6 = .ok (.ifCond .lt 26, 3) := by decide +kernel
theorem dX2_copyRow_9 : decode cX2_copyRow 9 = .ok (.aload_n 0, 1) := by decide +kernel
theorem dX2_copyRow_10 : decode cX2_copyRow 10 = .ok (.getfield 24, 3) := by decide +kernel
theorem dX2_copyRow_13 : decode cX2_copyRow 13 = .ok (.aload_n 1, 1) := by decide +kernel
theorem dX2_copyRow_14 : decode cX2_copyRow 14 = .ok (.arraylength, 1) := by decide +kernel
theorem dX2_copyRow_15 : decode cX2_copyRow 15 = .ok (.iload_n 2, 1) := by decide +kernel
theorem dX2_copyRow_16 : decode cX2_copyRow 16 = .ok (.isub, 1) := by decide +kernel
theorem dX2_copyRow_17 : decode cX2_copyRow 17 = .ok (.if_icmp .gt 15, 3) := by decide +kernel
theorem dX2_copyRow_20 : decode cX2_copyRow 20 = .ok (.aload_n 0, 1) := by decide +kernel
theorem dX2_copyRow_21 : decode cX2_copyRow 21 = .ok (.getfield 24, 3) := by decide +kernel
theorem dX2_copyRow_24 : decode cX2_copyRow 24 = .ok (.aload_n 3, 1) := by decide +kernel
theorem dX2_copyRow_25 : decode cX2_copyRow 25 = .ok (.arraylength, 1) := by decide +kernel
theorem dX2_copyRow_26 : decode cX2_copyRow 26 = .ok (.iload 4, 2) := by decide +kernel
theorem dX2_copyRow_28 : decode cX2_copyRow 28 = .ok (.isub, 1) := by decide +kernel
theorem dX2_copyRow_29 : decode cX2_copyRow 29 = .ok (.if_icmp .le 4, 3) := by decide +kernel
theorem dX2_copyRow_32 : decode cX2_copyRow 32 = .ok (.return_, 1) := by decide +kernel
theorem dX2_copyRow_33 : decode cX2_copyRow 33 = .ok (.iconst 0, 1) := by decide +kernel
theorem dX2_copyRow_34 : decode cX2_copyRow 34 = .ok (.istore 5, 2) := by decide +kernel
theorem dX2_copyRow_36 : decode cX2_copyRow 36 = .ok (.iload 5, 2) := by decide +kernel
theorem dX2_copyRow_38 : decode cX2_copyRow 38 = .ok (.aload_n 0, 1) := by decide +kernel
theorem dX2_copyRow_39 : decode cX2_copyRow 39 = .ok (.getfield 24, 3) := by decide +kernel
theorem dX2_copyRow_42 : decode cX2_copyRow 42 = .ok (.if_icmp .ge 22, 3) := by decide +kernel
theorem dX2_copyRow_45 : decode cX2_copyRow 45 = .ok (.aload_n 3, 1) := by decide +kernel
theorem dX2_copyRow_46 : decode cX2_copyRow 46 = .ok (.iload 4, 2) := by decide +kernel
theorem dX2_copyRow_48 : decode cX2_copyRow 48 = .ok (.iload 5, 2) := by decide +kernel
theorem dX2_copyRow_50 : decode cX2_copyRow 50 = .ok (.iadd, 1) := by decide +kernel
theorem dX2_copyRow_51 : decode cX2_copyRow 51 = .ok (.aload_n 1, 1) := by decide +kernel
theorem dX2_copyRow_52 : decode cX2_copyRow 52 = .ok (.iload_n 2, 1) := by decide +kernel
theorem dX2_copyRow_53 : decode cX2_copyRow 53 = .ok (.iload 5, 2) := by decide +kernel
theorem dX2_copyRow_55 : decode cX2_copyRow 55 = .ok (.iadd, 1) := by decide +kernel
theorem dX2_copyRow_56 : decode cX2_copyRow 56 = .ok (.iaload, 1) := by decide +kernel
theorem dX2_copyRow_57 : decode cX2_copyRow 57 = .ok (.iastore, 1) := by decide +kernel
theorem dX2_copyRow_58 : decode cX2_copyRow 58 = .ok (.iinc 5 1, 3) := by decide +kernel
theorem dX2_copyRow_61 : decode cX2_copyRow 61 = .ok (.goto (-25), 3) := by decide +kernel
theorem dX2_copyRow_64 : decode cX2_copyRow 64 = .ok (.return_, 1) := by decide +kernel
set_option maxRecDepth 20000 in
theorem ggX2_bringToLevel_X2_sumOf : GoodIn wsX2_bringToLevel wsX2_sumOf := goodIn_r _ [6, 1, 26, 27, 28, 29, 30, 31, 32, 33, 34, 35] (by decide +kernel) (by decide +kernel)
set_option maxRecDepth 20000 in
theorem gX2_bringToLevel_X2_sumOf : GoodIn wsX2_bringToLevel (wsV RX2 50 RX2 yX2_sumOf wsX2_sumOf) := goodIn_app (goodIn_of _ (by decide +kernel)) ggX2_bringToLevel_X2_sumOf
set_option maxRecDepth 20000 in
theorem ggX2_bringToLevel_J9_floorDiv_7cf53 : GoodIn wsX2_bringToLevel wsJ9_floorDiv_7cf53 := goodIn_r _ [10] (by decide +kernel) (by decide +kernel)
set_option maxRecDepth 20000 in
theorem gX2_bringToLevel_J9_floorDiv_7cf53 : GoodIn wsX2_bringToLevel (va_wsS RX2 54 yJ9_floorDiv_7cf53 wsJ9_floorDiv_7cf53) := goodIn_app (goodIn_of _ (by decide +kernel)) ggX2_bringToLevel_J9_floorDiv_7cf53
set_option maxRecDepth 20000 in
theorem ggX2_bringToLevel_X2_lessenAll : GoodIn wsX2_bringToLevel wsX2_lessenAll := goodIn_r _ [14, 1, 26, 27, 28, 29, 30, 31, 32, 33, 34, 35] (by decide +kernel) (by decide +kernel)
set_option maxRecDepth 20000 in
theorem gX2_bringToLevel_X2_lessenAll : GoodIn wsX2_bringToLevel (wsV RX2 57 RX2 yX2_lessenAll wsX2_lessenAll) := goodIn_app (goodIn_of _ (by decide +kernel)) ggX2_bringToLevel_X2_lessenAll
set_option maxRecDepth 20000 in
theorem ggX2_bringToLevel_X2_spreadAll : GoodIn wsX2_bringToLevel wsX2_spreadAll := goodIn_r _ [18, 1, 19, 20, 21, 22, 23, 24, 25, 26, 27, 28, 29, 30, 31, 32, 33, 34, 35] (by decide +kernel) (by decide +kernel)
set_option maxRecDepth 20000 in
theorem gX2_bringToLevel_X2_spreadAll : GoodIn wsX2_bringToLevel (wsV RX2 61 RX2 yX2_spreadAll wsX2_spreadAll) := goodIn_app (goodIn_of _ (by decide +kernel)) ggX2_bringToLevel_X2_spreadAll
theorem dX2_bringToLevel_0 : decode cX2_bringToLevel 0 = .ok (.aload_n 0, 1) := by decide +kernel
theorem dX2_bringToLevel_1 : decode cX2_bringToLevel 1 = .ok (.getfield 24, 3) := by decide +kernel
theorem dX2_bringToLevel_4 : decode cX2_bringToLevel 4 = .ok (.iconst 1, 1) := by decide +kernel
theorem dX2_bringToLevel_5 : decode cX2_bringToLevel 5 = .ok (.if_icmp .lt 12, 3) := by decide +kernel
theorem dX2_bringToLevel_8 : decode cX2_bringToLevel 8 = .ok (.aload_n 0, 1) := by decide +kernel
theorem dX2_bringToLevel_9 : decode cX2_bringToLevel 9 = .ok (.getfield 24, 3) := by decide +kernel
theorem dX2_bringToLevel_12 : decode cX2_bringToLevel 12 = .ok (.aload_n 1, 1) := by decide +kernel
theorem dX2_bringToLevel_13 : decode cX2_bringToLevel 13 = .ok (.arraylength, 1) := by decide +kernel
theorem dX2_bringToLevel_14 : decode cX2_bringToLevel 14 = .ok (.if_icmp .le 4, 3) := by decide +kernel
theorem dX2_bringToLevel_17 : decode cX2_bringToLevel 17 = .ok (.return_, 1) := by decide +kernel
theorem dX2_bringToLevel_18 : decode cX2_bringToLevel 18 = .ok (.iload_n 2, 1) := by decide +kernel
theorem dX2_bringToLevel_19 : decode cX2_bringToLevel 19 = .ok (.iconst 1, 1) := by decide +kernel
theorem dX2_bringToLevel_20 : decode cX2_bringToLevel 20 = .ok (.if_icmp .ne 23, 3) := by decide +kernel
theorem dX2_bringToLevel_23 : decode cX2_bringToLevel 23 = .ok (.aload_n 0, 1) := by decide +kernel
theorem dX2_bringToLevel_24 : decode cX2_bringToLevel 24 = .ok (.aload_n 1, 1) := by decide +kernel
theorem dX2_bringToLevel_25 : decode cX2_bringToLevel 25 = .ok (.aload_n 0, 1) := by decide +kernel
theorem dX2_bringToLevel_26 : decode cX2_bringToLevel 26 = .ok (.aload_n 1, 1) := by decide +kernel
theorem dX2_bringToLevel_27 : decode cX2_bringToLevel 27 = .ok (.invokevirtual 50, 3) := by decide +kernel
theorem dX2_bringToLevel_30 : decode cX2_bringToLevel 30 = .ok (.aload_n 0, 1) := by decide +kernel
theorem dX2_bringToLevel_31 : decode cX2_bringToLevel 31 = .ok (.getfield 24, 3) := by decide +kernel
theorem dX2_bringToLevel_34 : decode cX2_bringToLevel 34 = .ok (.invokestatic 54, 3) := by decide +kernel
theorem dX2_bringToLevel_37 : decode cX2_bringToLevel 37 = .ok (.invokevirtual 57, 3) := by decide +kernel
theorem dX2_bringToLevel_40 : decode cX2_bringToLevel 40 = .ok (.goto 29, 3) := by decide +kernel
theorem dX2_bringToLevel_43 : decode cX2_bringToLevel 43 = .ok (.iload_n 2, 1) := by decide +kernel
theorem dX2_bringToLevel_44 : decode cX2_bringToLevel 44 = .ok (.iconst 2, 1) := by decide +kernel
theorem dX2_bringToLevel_45 : decode cX2_bringToLevel 45 = .ok (.if_icmp .ne 14, 3) := by decide +kernel
theorem dX2_bringToLevel_48 : decode cX2_bringToLevel 48 = .ok (.aload_n 0, 1) := by decide +kernel
theorem dX2_bringToLevel_49 : decode cX2_bringToLevel 49 = .ok (.aload_n 1, 1) := by decide +kernel
theorem dX2_bringToLevel_50 : decode cX2_bringToLevel 50 = .ok (.aload_n 1, 1) := by decide +kernel
theorem dX2_bringToLevel_51 : decode cX2_bringToLevel 51 = .ok (.iconst 0, 1) := by decide +kernel
theorem dX2_bringToLevel_52 : decode cX2_bringToLevel 52 = .ok (.iaload, 1) := by decide +kernel
theorem dX2_bringToLevel_53 : decode cX2_bringToLevel 53 = .ok (.invokevirtual 57, 3) := by decide +kernel
theorem dX2_bringToLevel_56 : decode cX2_bringToLevel 56 = .ok (.goto 13, 3) := by decide +kernel
theorem dX2_bringToLevel_59 : decode cX2_bringToLevel 59 = .ok (.iload_n 2, 1) := by decide +kernel
theorem dX2_bringToLevel_60 : decode cX2_bringToLevel 60 = .ok (.iconst 3, 1) := by decide +kernel
theorem dX2_bringToLevel_61 : decode cX2_bringToLevel 61 = .ok (.if_icmp .ne 8, 3) := by decide +kernel
theorem dX2_bringToLevel_64 : decode cX2_bringToLevel 64 = .ok (.aload_n 0, 1) := by decide +kernel
theorem dX2_bringToLevel_65 : decode cX2_bringToLevel 65 = .ok (.aload_n 1, 1) := by decide +kernel
theorem dX2_bringToLevel_66 : decode cX2_bringToLevel 66 = .ok (.invokevirtual 61, 3) := by decide +kernel
theorem dX2_bringToLevel_69 : decode cX2_bringToLevel 69 = .ok (.return_, 1) := by decide +kernel
theorem dX2_sumOf_0 : decode cX2_sumOf 0 = .ok (.iconst 0, 1) := by decide +kernel
theorem dX2_sumOf_1 : decode cX2_sumOf 1 = .ok (.istore_n 2, 1) := by decide +kernel
theorem dX2_sumOf_2 : decode cX2_sumOf 2 = .ok (.iconst 0, 1) := by decide +kernel
theorem dX2_sumOf_3 : decode cX2_sumOf 3 = .ok (.istore_n 3, 1) := by decide +kernel
theorem dX2_sumOf_4 : decode cX2_sumOf 4 = .ok (.iload_n 3, 1) := by decide +kernel
theorem dX2_sumOf_5 : decode cX2_sumOf 5 = .ok (.aload_n 0, 1) := by decide +kernel
theorem dX2_sumOf_6 : decode cX2_sumOf 6 = .ok (.getfield 24, 3) := by decide +kernel
theorem dX2_sumOf_9 : decode cX2_sumOf 9 = .ok (.if_icmp .ge 21, 3) := by decide +kernel
theorem dX2_sumOf_12 : decode cX2_sumOf 12 = .ok (.iload_n 3, 1) := by decide +kernel
theorem dX2_sumOf_13 : decode cX2_sumOf 13 = .ok (.aload_n 1, 1) := by decide +kernel
theorem dX2_sumOf_14 : decode cX2_sumOf 14 = .ok (.arraylength, 1) := by decide +kernel
theorem dX2_sumOf_15 : decode cX2_sumOf 15 = .ok (.if_icmp .ge 15, 3) := by decide +kernel
theorem dX2_sumOf_18 : decode cX2_sumOf 18 = .ok (.iload_n 2, 1) := by decide +kernel
theorem dX2_sumOf_19 : decode cX2_sumOf 19 = .ok (.aload_n 1, 1) := by decide +kernel
theorem dX2_sumOf_20 : decode cX2_sumOf 20 = .ok (.iload_n 3, 1) := by decide +kernel
theorem dX2_sumOf_21 : decode cX2_sumOf 21 = .ok (.iaload, 1) := by decide +kernel
theorem dX2_sumOf_22 : decode cX2_sumOf 22 = .ok (.iadd, 1) := by decide +kernel
theorem dX2_sumOf_23 : decode cX2_sumOf 23 = .ok (.istore_n 2, 1) := by decide +kernel
theorem dX2_sumOf_24 : decode cX2_sumOf 24 = .ok (.iinc 3 1, 3) := by decide +kernel
theorem dX2_sumOf_27 : decode cX2_sumOf 27 = .ok (.goto (-23), 3) := by decide +kernel
theorem dX2_sumOf_30 : decode cX2_sumOf 30 = .ok (.iload_n 2, 1) := by decide +kernel
theorem dX2_sumOf_31 : decode cX2_sumOf 31 = .ok (.ireturn, 1) := by decide +kernel
theorem dX2_lessenAll_0 : decode cX2_lessenAll 0 = .ok (.iconst 0, 1) := by decide +kernel
theorem dX2_lessenAll_1 : decode cX2_lessenAll 1 = .ok (.istore_n 3, 1) := by decide +kernel
theorem dX2_lessenAll_2 : decode cX2_lessenAll 2 = .ok (.iload_n 3, 1) := by decide +kernel
theorem dX2_lessenAll_3 : decode cX2_lessenAll 3 = .ok (.aload_n 0, 1) := by decide +kernel
theorem dX2_lessenAll_4 : decode cX2_lessenAll 4 = .ok (.getfield 24, 3) := by decide +kernel
theorem dX2_lessenAll_7 : decode cX2_lessenAll 7 = .ok (.if_icmp .ge 22, 3) := by decide +kernel
theorem dX2_lessenAll_10 : decode cX2_lessenAll 10 = .ok (.iload_n 3, 1) := by decide +kernel
theorem dX2_lessenAll_11 : decode cX2_lessenAll 11 = .ok (.aload_n 1, 1) := by decide +kernel
theorem dX2_lessenAll_12 : decode cX2_lessenAll 12 = .ok (.arraylength, 1) := by decide +kernel
theorem dX2_lessenAll_13 : decode cX2_lessenAll 13 = .ok (.if_icmp .ge 16, 3) := by decide +kernel
theorem dX2_lessenAll_16 : decode cX2_lessenAll 16 = .ok (.aload_n 1, 1) := by decide +kernel
theorem dX2_lessenAll_17 : decode cX2_lessenAll 17 = .ok (.iload_n 3, 1) := by decide +kernel
theorem dX2_lessenAll_18 : decode cX2_lessenAll 18 = .ok (.dup2, 1) := by decide +kernel
theorem dX2_lessenAll_19 : decode cX2_lessenAll 19 = .ok (.iaload, 1) := by decide +kernel
theorem dX2_lessenAll_20 : decode cX2_lessenAll 20 = .ok (.iload_n 2, 1) := by decide +kernel
theorem dX2_lessenAll_21 : decode cX2_lessenAll 21 = .ok (.isub, 1) := by decide +kernel
theorem dX2_lessenAll_22 : decode cX2_lessenAll 22 = .ok (.iastore, 1) := by decide +kernel
theorem dX2_lessenAll_23 : decode cX2_lessenAll 23 = .ok (.iinc 3 1, 3) := by decide +kernel
theorem dX2_lessenAll_26 : decode cX2_lessenAll 26 = .ok (.goto (-24), 3) := by decide +kernel
theorem dX2_lessenAll_29 : decode cX2_lessenAll 29 = .ok (.return_, 1) := by decide +kernel
theorem dX2_spreadAll_0 : decode cX2_spreadAll 0 = .ok (.aload_n 1, 1) := by decide +kernel
theorem dX2_spreadAll_1 : decode cX2_spreadAll 1 = .ok (.iconst 0, 1) := by decide +kernel
theorem dX2_spreadAll_2 : decode cX2_spreadAll 2 = .ok (.iaload, 1) := by decide +kernel
theorem dX2_spreadAll_3 : decode cX2_spreadAll 3 = .ok (.istore_n 2, 1) := by decide +kernel
theorem dX2_spreadAll_4 : decode cX2_spreadAll 4 = .ok (.aload_n 1, 1) := by decide +kernel
theorem dX2_spreadAll_5 : decode cX2_spreadAll 5 = .ok (.iconst 0, 1) := by decide +kernel
theorem dX2_spreadAll_6 : decode cX2_spreadAll 6 = .ok (.iaload, 1) := by decide +kernel
theorem dX2_spreadAll_7 : decode cX2_spreadAll 7 = .ok (.istore_n 3, 1) := by decide +kernel
theorem dX2_spreadAll_8 : decode cX2_spreadAll 8 = .ok (.iconst 1, 1) := by decide +kernel
theorem dX2_spreadAll_9 : decode cX2_spreadAll 9 = .ok (.istore 4, 2) := by decide +kernel
theorem dX2_spreadAll_11 : decode cX2_spreadAll 11 = .ok (.iload 4, 2) := by decide +kernel
theorem dX2_spreadAll_13 : decode cX2_spreadAll 13 = .ok (.aload_n 0, 1) := by decide +kernel
theorem dX2_spreadAll_14 : decode cX2_spreadAll 14 = .ok (.getfield 24, 3) := by decide +kernel
theorem dX2_spreadAll_17 : decode cX2_spreadAll 17 = .ok (.if_icmp .ge 27, 3) := by decide +kernel
theorem dX2_spreadAll_20 : decode cX2_spreadAll 20 = .ok (.iload_n 2, 1) := by decide +kernel
theorem dX2_spreadAll_21 : decode cX2_spreadAll 21 = .ok (.aload_n 1, 1) := by decide +kernel
theorem dX2_spreadAll_22 : decode cX2_spreadAll 22 = .ok (.iload 4, 2) := by decide +kernel
theorem dX2_spreadAll_24 : decode cX2_spreadAll 24 = .ok (.iaload, 1) := by decide +kernel
theorem dX2_spreadAll_25 : decode cX2_spreadAll 25 = .ok (.invokestatic 28, 3) := by decide +kernel
theorem dX2_spreadAll_28 : decode cX2_spreadAll 28 = .ok (.istore_n 2, 1) := by decide +kernel
theorem dX2_spreadAll_29 : decode cX2_spreadAll 29 = .ok (.iload_n 3, 1) := by decide +kernel
theorem dX2_spreadAll_30 : decode cX2_spreadAll 30 = .ok (.aload_n 1, 1) := by decide +kernel
theorem dX2_spreadAll_31 : decode cX2_spreadAll 31 = .ok (.iload 4, 2) := by decide +kernel
theorem dX2_spreadAll_33 : decode cX2_spreadAll 33 = .ok (.iaload, 1) := by decide +kernel
theorem dX2_spreadAll_34 : decode cX2_spreadAll 34 = .ok (.invokestatic 34, 3) := by decide +kernel
theorem dX2_spreadAll_37 : decode cX2_spreadAll 37 = .ok (.istore_n 3, 1) := by decide +kernel
theorem dX2_spreadAll_38 : decode cX2_spreadAll 38 = .ok (.iinc 4 1, 3) := by decide +kernel
theorem dX2_spreadAll_41 : decode cX2_spreadAll 41 = .ok (.goto (-30), 3) := by decide +kernel
theorem dX2_spreadAll_44 : decode cX2_spreadAll 44 = .ok (.iload_n 3, 1) := by decide +kernel
theorem dX2_spreadAll_45 : decode cX2_spreadAll 45 = .ok (.iload_n 2, 1) := by decide +kernel
theorem dX2_spreadAll_46 : decode cX2_spreadAll 46 = .ok (.isub, 1) := by decide +kernel
theorem dX2_spreadAll_47 : decode cX2_spreadAll 47 = .ok (.istore 4, 2) := by decide +kernel
theorem dX2_spreadAll_49 : decode cX2_spreadAll 49 = .ok (.iconst 0, 1) := by decide +kernel
theorem dX2_spreadAll_50 : decode cX2_spreadAll 50 = .ok (.istore 5, 2) := by decide +kernel
theorem dX2_spreadAll_52 : decode cX2_spreadAll 52 = .ok (.iload 5, 2) := by decide +kernel
theorem dX2_spreadAll_54 : decode cX2_spreadAll 54 = .ok (.aload_n 0, 1) := by decide +kernel
theorem dX2_spreadAll_55 : decode cX2_spreadAll 55 = .ok (.getfield 24, 3) := by decide +kernel
theorem dX2_spreadAll_58 : decode cX2_spreadAll 58 = .ok (.if_icmp .ge 35, 3) := by decide +kernel
theorem dX2_spreadAll_61 : decode cX2_spreadAll 61 = .ok (.aload_n 1, 1) := by decide +kernel
theorem dX2_spreadAll_62 : decode cX2_spreadAll 62 = .ok (.iload 5, 2) := by decide +kernel
theorem dX2_spreadAll_64 : decode cX2_spreadAll 64 = .ok (.iload 4, 2) := by decide +kernel
theorem dX2_spreadAll_66 : decode cX2_spreadAll 66 = .ok (.ifCond .ne 7, 3) := by decide +kernel
theorem dX2_spreadAll_69 : decode cX2_spreadAll 69 = .ok (.iconst 0, 1) := by decide +kernel
theorem dX2_spreadAll_70 : decode cX2_spreadAll 70 = .ok (.goto 16, 3) := by decide +kernel
theorem dX2_spreadAll_73 : decode cX2_spreadAll 73 = .ok (.sipush 1000, 3) := by decide +kernel
theorem dX2_spreadAll_76 : decode cX2_spreadAll 76 = .ok (.aload_n 1, 1) := by decide +kernel
theorem dX2_spreadAll_77 : decode cX2_spreadAll 77 = .ok (.iload 5, 2) := by decide +kernel
theorem dX2_spreadAll_79 : decode cX2_spreadAll 79 = .ok (.iaload, 1) := by decide +kernel
theorem dX2_spreadAll_80 : decode cX2_spreadAll 80 = .ok (.iload_n 2, 1) := by decide +kernel
theorem dX2_spreadAll_81 : decode cX2_spreadAll 81 = .ok (.isub, 1) := by decide +kernel
theorem dX2_spreadAll_82 : decode cX2_spreadAll 82 = .ok (.imul, 1) := by decide +kernel
theorem dX2_spreadAll_83 : decode cX2_spreadAll 83 = .ok (.iload 4, 2) := by decide +kernel
theorem dX2_spreadAll_85 : decode cX2_spreadAll 85 = .ok (.idiv, 1) := by decide +kernel
theorem dX2_spreadAll_86 : decode cX2_spreadAll 86 = .ok (.iastore, 1) := by decide +kernel
theorem dX2_spreadAll_87 : decode cX2_spreadAll 87 = .ok (.iinc 5 1, 3) := by decide +kernel
theorem dX2_spreadAll_90 : decode cX2_spreadAll 90 = .ok (.goto (-38), 3) := by decide +kernel
theorem dX2_spreadAll_93 : decode cX2_spreadAll 93 = .ok (.return_, 1) := by decide +kernel
theorem dX2_costOf_0 : decode cX2_costOf 0 = .ok (.iload_n 1, 1) := by decide +kernel
theorem dX2_costOf_1 : decode cX2_costOf 1 = .ok (.iload_n 2, 1) := by decide +kernel
theorem dX2_costOf_2 : decode cX2_costOf 2 = .ok (.isub, 1) := by decide +kernel
theorem dX2_costOf_3 : decode cX2_costOf 3 = .ok (.istore_n 3, 1) := by decide +kernel
theorem dX2_costOf_4 : decode cX2_costOf 4 = .ok (.aload_n 0, 1) := by decide +kernel
theorem dX2_costOf_5 : decode cX2_costOf 5 = .ok (.getfield 42, 3) := by decide +kernel
theorem dX2_costOf_8 : decode cX2_costOf 8 = .ok (.ifCond .eq 7, 3) := by decide +kernel
theorem dX2_costOf_11 : decode cX2_costOf 11 = .ok (.iload_n 3, 1) := by decide +kernel
theorem dX2_costOf_12 : decode cX2_costOf 12 = .ok (.iload_n 3, 1) := by decide +kernel
theorem dX2_costOf_13 : decode cX2_costOf 13 = .ok (.imul, 1) := by decide +kernel
theorem dX2_costOf_14 : decode cX2_costOf 14 = .ok (.ireturn, 1) := by decide +kernel
theorem dX2_costOf_15 : decode cX2_costOf 15 = .ok (.iload_n 3, 1) := by decide +kernel
theorem dX2_costOf_16 : decode cX2_costOf 16 = .ok (.ifCond .ge 8, 3) := by decide +kernel
theorem dX2_costOf_19 : decode cX2_costOf 19 = .ok (.iload_n 3, 1) := by decide +kernel
theorem dX2_costOf_20 : decode cX2_costOf 20 = .ok (.ineg, 1) := by decide +kernel
theorem dX2_costOf_21 : decode cX2_costOf 21 = .ok (.goto 4, 3) := by decide +kernel
theorem dX2_costOf_24 : decode cX2_costOf 24 = .ok (.iload_n 3, 1) := by decide +kernel
theorem dX2_costOf_25 : decode cX2_costOf 25 = .ok (.ireturn, 1) := by decide +kernel
set_option maxRecDepth 20000 in
theorem ggX2_endsBound_X2_costOf : GoodIn wsX2_endsBound wsX2_costOf := goodIn_r _ [8, 9, 10, 11, 12, 13, 14, 15, 16, 17, 18, 19] (by decide +kernel) (by decide +kernel)
set_option maxRecDepth 20000 in
theorem gX2_endsBound_X2_costOf : GoodIn wsX2_endsBound (wsV RX2 65 RX2 yX2_costOf wsX2_costOf) := goodIn_app (goodIn_of _ (by decide +kernel)) ggX2_endsBound_X2_costOf
theorem dX2_endsBound_0 : decode cX2_endsBound 0 = .ok (.aload_n 0, 1) := by decide +kernel
theorem dX2_endsBound_1 : decode cX2_endsBound 1 = .ok (.getfield 24, 3) := by decide +kernel
theorem dX2_endsBound_4 : decode cX2_endsBound 4 = .ok (.iconst 1, 1) := by decide +kernel
theorem dX2_endsBound_5 : decode cX2_endsBound 5 = .ok (.isub, 1) := by decide +kernel
theorem dX2_endsBound_6 : decode cX2_endsBound 6 = .ok (.istore_n 1, 1) := by decide +kernel
theorem dX2_endsBound_7 : decode cX2_endsBound 7 = .ok (.aload_n 0, 1) := by decide +kernel
theorem dX2_endsBound_8 : decode cX2_endsBound 8 = .ok (.aload_n 0, 1) := by decide +kernel
theorem dX2_endsBound_9 : decode cX2_endsBound 9 = .ok (.getfield 9, 3) := by decide +kernel
theorem dX2_endsBound_12 : decode cX2_endsBound 12 = .ok (.iconst 0, 1) := by decide +kernel
theorem dX2_endsBound_13 : decode cX2_endsBound 13 = .ok (.iaload, 1) := by decide +kernel
theorem dX2_endsBound_14 : decode cX2_endsBound 14 = .ok (.aload_n 0, 1) := by decide +kernel
theorem dX2_endsBound_15 : decode cX2_endsBound 15 = .ok (.getfield 15, 3) := by decide +kernel
theorem dX2_endsBound_18 : decode cX2_endsBound 18 = .ok (.iconst 0, 1) := by decide +kernel
theorem dX2_endsBound_19 : decode cX2_endsBound 19 = .ok (.iaload, 1) := by decide +kernel
theorem dX2_endsBound_20 : decode cX2_endsBound 20 = .ok (.invokevirtual 65, 3) := by decide +kernel
theorem dX2_endsBound_23 : decode cX2_endsBound 23 = .ok (.aload_n 0, 1) := by decide +kernel
theorem dX2_endsBound_24 : decode cX2_endsBound 24 = .ok (.aload_n 0, 1) := by decide +kernel
theorem dX2_endsBound_25 : decode cX2_endsBound 25 = .ok (.getfield 9, 3) := by decide +kernel
theorem dX2_endsBound_28 : decode cX2_endsBound 28 = .ok (.iload_n 1, 1) := by decide +kernel
theorem dX2_endsBound_29 : decode cX2_endsBound 29 = .ok (.iaload, 1) := by decide +kernel
theorem dX2_endsBound_30 : decode cX2_endsBound 30 = .ok (.aload_n 0, 1) := by decide +kernel
theorem dX2_endsBound_31 : decode cX2_endsBound 31 = .ok (.getfield 15, 3) := by decide +kernel
theorem dX2_endsBound_34 : decode cX2_endsBound 34 = .ok (.iload_n 1, 1) := by decide +kernel
theorem dX2_endsBound_35 : decode cX2_endsBound 35 = .ok (.iaload, 1) := by decide +kernel
theorem dX2_endsBound_36 : decode cX2_endsBound 36 = .ok (.invokevirtual 65, 3) := by decide +kernel
theorem dX2_endsBound_39 : decode cX2_endsBound 39 = .ok (.iadd, 1) := by decide +kernel
theorem dX2_endsBound_40 : decode cX2_endsBound 40 = .ok (.ireturn, 1) := by decide +kernel
set_option maxRecDepth 20000 in
theorem ggX2_overBound_X2_envelopeBound : GoodIn wsX2_overBound wsX2_envelopeBound := goodIn_r _ [7, 8, 9, 10, 11, 6, 12, 13, 14, 15, 16, 17, 18, 19, 20, 21, 22, 23, 24, 25, 26, 27, 28, 29, 30, 31, 32, 33, 34, 35] (by decide +kernel) (by decide +kernel)
set_option maxRecDepth 20000 in
theorem gX2_overBound_X2_envelopeBound : GoodIn wsX2_overBound (wsV RX2 68 RX2 yX2_envelopeBound wsX2_envelopeBound) := goodIn_app (goodIn_of _ (by decide +kernel)) ggX2_overBound_X2_envelopeBound
theorem dX2_overBound_0 : decode cX2_overBound 0 = .ok (.aload_n 0, 1) := by decide +kernel
theorem dX2_overBound_1 : decode cX2_overBound 1 = .ok (.aload_n 0, 1) := by decide +kernel
theorem dX2_overBound_2 : decode cX2_overBound 2 = .ok (.getfield 15, 3) := by decide +kernel
theorem dX2_overBound_5 : decode cX2_overBound 5 = .ok (.aload_n 0, 1) := by decide +kernel
theorem dX2_overBound_6 : decode cX2_overBound 6 = .ok (.getfield 9, 3) := by decide +kernel
theorem dX2_overBound_9 : decode cX2_overBound 9 = .ok (.invokevirtual 68, 3) := by decide +kernel
theorem dX2_overBound_12 : decode cX2_overBound 12 = .ok (.ireturn, 1) := by decide +kernel
set_option maxRecDepth 20000 in
theorem ggX2_backBound_X2_envelopeBound : GoodIn wsX2_backBound wsX2_envelopeBound := goodIn_r _ [7, 8, 9, 10, 11, 6, 12, 13, 14, 15, 16, 17, 18, 19, 20, 21, 22, 23, 24, 25, 26, 27, 28, 29, 30, 31, 32, 33, 34, 35] (by decide +kernel) (by decide +kernel)
set_option maxRecDepth 20000 in
theorem gX2_backBound_X2_envelopeBound : GoodIn wsX2_backBound (wsV RX2 68 RX2 yX2_envelopeBound wsX2_envelopeBound) := goodIn_app (goodIn_of _ (by decide +kernel)) ggX2_backBound_X2_envelopeBound
theorem dX2_backBound_0 : decode cX2_backBound 0 = .ok (.aload_n 0, 1) := by decide +kernel
theorem dX2_backBound_1 : decode cX2_backBound 1 = .ok (.aload_n 0, 1) := by decide +kernel
theorem dX2_backBound_2 : decode cX2_backBound 2 = .ok (.getfield 9, 3) := by decide +kernel
theorem dX2_backBound_5 : decode cX2_backBound 5 = .ok (.aload_n 0, 1) := by decide +kernel
theorem dX2_backBound_6 : decode cX2_backBound 6 = .ok (.getfield 15, 3) := by decide +kernel
theorem dX2_backBound_9 : decode cX2_backBound 9 = .ok (.invokevirtual 68, 3) := by decide +kernel
theorem dX2_backBound_12 : decode cX2_backBound 12 = .ok (.ireturn, 1) := by decide +kernel
set_option maxRecDepth 20000 in
theorem ggX2_envelopeBound_X2_outsideCost : GoodIn wsX2_envelopeBound wsX2_outsideCost := goodIn_r _ [6, 7, 8, 9, 10, 11, 1, 12, 13, 14, 15, 16, 17, 5, 18, 19, 20, 21, 22, 23, 24, 25, 26, 27, 28, 29] (by decide +kernel) (by decide +kernel)
set_option maxRecDepth 20000 in
theorem gX2_envelopeBound_X2_outsideCost : GoodIn wsX2_envelopeBound (wsV RX2 72 RX2 yX2_outsideCost wsX2_outsideCost) := goodIn_app (goodIn_of _ (by decide +kernel)) ggX2_envelopeBound_X2_outsideCost
theorem dX2_envelopeBound_0 : decode cX2_envelopeBound 0 = .ok (.iconst 0, 1) := by decide +kernel
theorem dX2_envelopeBound_1 : decode cX2_envelopeBound 1 = .ok (.istore_n 3, 1) := by decide +kernel
theorem dX2_envelopeBound_2 : decode cX2_envelopeBound 2 = .ok (.iconst 0, 1) := by decide +kernel
theorem dX2_envelopeBound_3 : decode cX2_envelopeBound 3 = .ok (.istore 4, 2) := by decide +kernel
theorem dX2_envelopeBound_5 : decode cX2_envelopeBound 5 = .ok (.iload 4, 2) := by decide +kernel
theorem dX2_envelopeBound_7 : decode cX2_envelopeBound 7 = .ok (.aload_n 0, 1) := by decide +kernel
theorem dX2_envelopeBound_8 : decode cX2_envelopeBound 8 = .ok (.getfield 24, 3) := by decide +kernel
theorem dX2_envelopeBound_11 : decode cX2_envelopeBound 11 = .ok (.if_icmp .ge 30, 3) := by decide +kernel
theorem dX2_envelopeBound_14 : decode cX2_envelopeBound 14 = .ok (.iload 4, 2) := by decide +kernel
theorem dX2_envelopeBound_16 : decode cX2_envelopeBound 16 = .ok (.aload_n 1, 1) := by decide +kernel
theorem dX2_envelopeBound_17 : decode cX2_envelopeBound 17 = .ok (.arraylength, 1) := by decide +kernel
theorem dX2_envelopeBound_18 : decode cX2_envelopeBound 18 = .ok (.if_icmp .ge 23, 3) := by decide +kernel
theorem dX2_envelopeBound_21 : decode cX2_envelopeBound 21 = .ok (.iload_n 3, 1) := by decide +kernel
theorem dX2_envelopeBound_22 : decode cX2_envelopeBound 22 = .ok (.aload_n 0, 1) := by decide +kernel
theorem dX2_envelopeBound_23 : decode cX2_envelopeBound 23 = .ok (.aload_n 1, 1) := by decide +kernel
theorem dX2_envelopeBound_24 : decode cX2_envelopeBound 24 = .ok (.iload 4, 2) := by decide +kernel
theorem dX2_envelopeBound_26 : decode cX2_envelopeBound 26 = .ok (.iaload, 1) := by decide +kernel
theorem dX2_envelopeBound_27 : decode cX2_envelopeBound 27 = .ok (.aload_n 2, 1) := by decide +kernel
theorem dX2_envelopeBound_28 : decode cX2_envelopeBound 28 = .ok (.iload 4, 2) := by decide +kernel
theorem dX2_envelopeBound_30 : decode cX2_envelopeBound 30 = .ok (.invokevirtual 72, 3) := by decide +kernel
theorem dX2_envelopeBound_33 : decode cX2_envelopeBound 33 = .ok (.iadd, 1) := by decide +kernel
theorem dX2_envelopeBound_34 : decode cX2_envelopeBound 34 = .ok (.istore_n 3, 1) := by decide +kernel
theorem dX2_envelopeBound_35 : decode cX2_envelopeBound 35 = .ok (.iinc 4 1, 3) := by decide +kernel
theorem dX2_envelopeBound_38 : decode cX2_envelopeBound 38 = .ok (.goto (-33), 3) := by decide +kernel
theorem dX2_envelopeBound_41 : decode cX2_envelopeBound 41 = .ok (.iload_n 3, 1) := by decide +kernel
theorem dX2_envelopeBound_42 : decode cX2_envelopeBound 42 = .ok (.ireturn, 1) := by decide +kernel
set_option maxRecDepth 20000 in
theorem ggX2_outsideCost_X2_costOf : GoodIn wsX2_outsideCost wsX2_costOf := goodIn_r _ [14, 15, 16, 17, 18, 19, 20, 21, 22, 23, 24, 25] (by decide +kernel) (by decide +kernel)
set_option maxRecDepth 20000 in
theorem gX2_outsideCost_X2_costOf : GoodIn wsX2_outsideCost (wsV RX2 65 RX2 yX2_costOf wsX2_costOf) := goodIn_app (goodIn_of _ (by decide +kernel)) ggX2_outsideCost_X2_costOf
theorem dX2_outsideCost_0 : decode cX2_outsideCost 0 = .ok (.iconst 0, 1) := by decide +kernel
theorem dX2_outsideCost_1 : decode cX2_outsideCost 1 = .ok (.iload_n 3, 1) := by decide +kernel
theorem dX2_outsideCost_2 : decode cX2_outsideCost 2 = .ok (.aload_n 0, 1) := by decide +kernel
theorem dX2_outsideCost_3 : decode cX2_outsideCost 3 = .ok (.getfield 37, 3) := by decide +kernel
theorem dX2_outsideCost_6 : decode cX2_outsideCost 6 = .ok (.isub, 1) := by decide +kernel
theorem dX2_outsideCost_7 : decode cX2_outsideCost 7 = .ok (.invokestatic 34, 3) := by decide +kernel
theorem dX2_outsideCost_10 : decode cX2_outsideCost 10 = .ok (.istore 4, 2) := by decide +kernel
theorem dX2_outsideCost_12 : decode cX2_outsideCost 12 = .ok (.aload_n 0, 1) := by decide +kernel
theorem dX2_outsideCost_13 : decode cX2_outsideCost 13 = .ok (.getfield 24, 3) := by decide +kernel
theorem dX2_outsideCost_16 : decode cX2_outsideCost 16 = .ok (.iconst 1, 1) := by decide +kernel
theorem dX2_outsideCost_17 : decode cX2_outsideCost 17 = .ok (.isub, 1) := by decide +kernel
theorem dX2_outsideCost_18 : decode cX2_outsideCost 18 = .ok (.iload_n 3, 1) := by decide +kernel
theorem dX2_outsideCost_19 : decode cX2_outsideCost 19 = .ok (.aload_n 0, 1) := by decide +kernel
theorem dX2_outsideCost_20 : decode cX2_outsideCost 20 = .ok (.getfield 37, 3) := by decide +kernel
theorem dX2_outsideCost_23 : decode cX2_outsideCost 23 = .ok (.iadd, 1) := by decide +kernel
theorem dX2_outsideCost_24 : decode cX2_outsideCost 24 = .ok (.invokestatic 28, 3) := by decide +kernel
theorem dX2_outsideCost_27 : decode cX2_outsideCost 27 = .ok (.istore 5, 2) := by decide +kernel
theorem dX2_outsideCost_29 : decode cX2_outsideCost 29 = .ok (.aload_n 2, 1) := by decide +kernel
theorem dX2_outsideCost_30 : decode cX2_outsideCost 30 = .ok (.iload 4, 2) := by decide +kernel
theorem dX2_outsideCost_32 : decode cX2_outsideCost 32 = .ok (.iaload, 1) := by decide +kernel
theorem dX2_outsideCost_33 : decode cX2_outsideCost 33 = .ok (.istore 6, 2) := by decide +kernel
theorem dX2_outsideCost_35 : decode cX2_outsideCost 35 = .ok (.iload 6, 2) := by decide +kernel
theorem dX2_outsideCost_37 : decode cX2_outsideCost 37 = .ok (.istore 7, 2) := by decide +kernel
theorem dX2_outsideCost_39 : decode cX2_outsideCost 39 = .ok (.iload 4, 2) := by decide +kernel
theorem dX2_outsideCost_41 : decode cX2_outsideCost 41 = .ok (.iconst 1, 1) := by decide +kernel
theorem dX2_outsideCost_42 : decode cX2_outsideCost 42 = .ok (.iadd, 1) := by decide +kernel
theorem dX2_outsideCost_43 : decode cX2_outsideCost 43 = .ok (.istore 8, 2) := by decide +kernel
theorem dX2_outsideCost_45 : decode cX2_outsideCost 45 = .ok (.iload 8, 2) := by decide +kernel
theorem dX2_outsideCost_47 : decode cX2_outsideCost 47 = .ok (.iload 5, 2) := by decide +kernel
theorem dX2_outsideCost_49 : decode cX2_outsideCost 49 = .ok (.if_icmp .gt 40, 3) := by decide +kernel
theorem dX2_outsideCost_52 : decode cX2_outsideCost 52 = .ok (.aload_n 2, 1) := by decide +kernel
theorem dX2_outsideCost_53 : decode cX2_outsideCost 53 = .ok (.iload 8, 2) := by decide +kernel
theorem dX2_outsideCost_55 : decode cX2_outsideCost 55 = .ok (.iaload, 1) := by decide +kernel
theorem dX2_outsideCost_56 : decode cX2_outsideCost 56 = .ok (.istore 9, 2) := by decide +kernel
theorem dX2_outsideCost_58 : decode cX2_outsideCost 58 = .ok (.iload 9, 2) := by decide +kernel
theorem dX2_outsideCost_60 : decode cX2_outsideCost 60 = .ok (.iload 6, 2) := by decide +kernel
theorem dX2_outsideCost_62 : decode cX2_outsideCost 62 = .ok (.if_icmp .ge 10, 3) := by decide +kernel
theorem dX2_outsideCost_65 : decode cX2_outsideCost 65 = .ok (.iload 9, 2) := by decide +kernel
theorem dX2_outsideCost_67 : decode cX2_outsideCost 67 = .ok (.istore 6, 2) := by decide +kernel
theorem dX2_outsideCost_69 : decode cX2_outsideCost 69 = .ok (.goto 14, 3) := by decide +kernel
theorem dX2_outsideCost_72 : decode cX2_outsideCost 72 = .ok (.iload 9, 2) := by decide +kernel
theorem dX2_outsideCost_74 : decode cX2_outsideCost 74 = .ok (.iload 7, 2) := by decide +kernel
theorem dX2_outsideCost_76 : decode cX2_outsideCost 76 = .ok (.if_icmp .le 7, 3) := by decide +kernel
theorem dX2_outsideCost_79 : decode cX2_outsideCost 79 = .ok (.iload 9, 2) := by decide +kernel
theorem dX2_outsideCost_81 : decode cX2_outsideCost 81 = .ok (.istore 7, 2) := by decide +kernel
theorem dX2_outsideCost_83 : decode cX2_outsideCost 83 = .ok (.iinc 8 1, 3) := by decide +kernel
theorem dX2_outsideCost_86 : decode cX2_outsideCost 86 = .ok (.goto (-41), 3) := by decide +kernel
theorem dX2_outsideCost_89 : decode cX2_outsideCost 89 = .ok (.iload_n 1, 1) := by decide +kernel
theorem dX2_outsideCost_90 : decode cX2_outsideCost 90 = .ok (.iload 7, 2) := by decide +kernel
theorem dX2_outsideCost_92 : decode cX2_outsideCost 92 = .ok (.if_icmp .le 11, 3) := by decide +kernel
theorem dX2_outsideCost_95 : decode cX2_outsideCost 95 = .ok (.aload_n 0, 1) := by decide +kernel
theorem dX2_outsideCost_96 : decode cX2_outsideCost 96 = .ok (.iload_n 1, 1) := by decide +kernel
theorem dX2_outsideCost_97 : decode cX2_outsideCost 97 = .ok (.iload 7, 2) := by decide +kernel
theorem dX2_outsideCost_99 : decode cX2_outsideCost 99 = .ok (.invokevirtual 65, 3) := by decide +kernel
theorem dX2_outsideCost_102 : decode cX2_outsideCost 102 = .ok (.ireturn, 1) := by decide +kernel
theorem dX2_outsideCost_103 : decode cX2_outsideCost 103 = .ok (.iload_n 1, 1) := by decide +kernel
theorem dX2_outsideCost_104 : decode cX2_outsideCost 104 = .ok (.iload 6, 2) := by decide +kernel
theorem dX2_outsideCost_106 : decode cX2_outsideCost 106 = .ok (.if_icmp .ge 13, 3) := by decide +kernel
theorem dX2_outsideCost_109 : decode cX2_outsideCost 109 = .ok (.aload_n 0, 1) := by decide +kernel
theorem dX2_outsideCost_110 : decode cX2_outsideCost 110 = .ok (.iload_n 1, 1) := by decide +kernel
theorem dX2_outsideCost_111 : decode cX2_outsideCost 111 = .ok (.iload 6, 2) := by decide +kernel
theorem dX2_outsideCost_113 : decode cX2_outsideCost 113 = .ok (.invokevirtual 65, 3) := by decide +kernel
theorem dX2_outsideCost_116 : decode cX2_outsideCost 116 = .ok (.goto 4, 3) := by decide +kernel
theorem dX2_outsideCost_119 : decode cX2_outsideCost 119 = .ok (.iconst 0, 1) := by decide +kernel
theorem dX2_outsideCost_120 : decode cX2_outsideCost 120 = .ok (.ireturn, 1) := by decide +kernel
set_option maxRecDepth 20000 in
theorem ggX2_lookAt_X2_endsBound : GoodIn wsX2_lookAt wsX2_endsBound := goodIn_r _ [9, 10, 4, 3, 11, 12, 13, 8, 14, 15, 50, 51, 52, 53, 54, 55, 56, 57, 58, 59] (by decide +kernel) (by decide +kernel)
set_option maxRecDepth 20000 in
theorem gX2_lookAt_X2_endsBound : GoodIn wsX2_lookAt (wsV RX2 82 RX2 yX2_endsBound wsX2_endsBound) := goodIn_app (goodIn_of _ (by decide +kernel)) ggX2_lookAt_X2_endsBound
set_option maxRecDepth 20000 in
theorem ggX2_lookAt_X2_envelopeBound : GoodIn wsX2_lookAt wsX2_envelopeBound := goodIn_r _ [19, 10, 20, 21, 22, 8, 23, 24, 25, 26, 27, 28, 29, 30, 31, 11, 12, 13, 14, 15, 50, 51, 52, 53, 54, 55, 56, 57, 58, 59] (by decide +kernel) (by decide +kernel)
set_option maxRecDepth 20000 in
theorem gX2_lookAt_X2_envelopeBound : GoodIn wsX2_lookAt (wsV RX2 68 RX2 yX2_envelopeBound wsX2_envelopeBound) := goodIn_app (goodIn_of _ (by decide +kernel)) ggX2_lookAt_X2_envelopeBound
set_option maxRecDepth 20000 in
theorem ggX2_lookAt_X2_layTable : GoodIn wsX2_lookAt wsX2_layTable := goodIn_r _ [35, 1, 2, 10, 36, 37, 38, 8, 39, 24, 25, 26, 27, 28, 29, 30, 31, 40, 4, 3, 41, 11, 12, 13, 14, 15, 42, 43, 44, 45, 50, 51, 52, 53, 54, 55, 56, 57, 58, 59] (by decide +kernel) (by decide +kernel)
set_option maxRecDepth 20000 in
theorem gX2_lookAt_X2_layTable : GoodIn wsX2_lookAt (wsV RX2 86 RX2 yX2_layTable wsX2_layTable) := goodIn_app (goodIn_of _ (by decide +kernel)) ggX2_lookAt_X2_layTable
set_option maxRecDepth 20000 in
theorem ggX2_lookAt_X2_laidDistance : GoodIn wsX2_lookAt wsX2_laidDistance := goodIn_r _ [49, 41, 10, 50, 51, 52, 53, 54, 55, 56, 57, 58, 59] (by decide +kernel) (by decide +kernel)
set_option maxRecDepth 20000 in
theorem gX2_lookAt_X2_laidDistance : GoodIn wsX2_lookAt (wsV RX2 90 RX2 yX2_laidDistance wsX2_laidDistance) := goodIn_app (goodIn_of _ (by decide +kernel)) ggX2_lookAt_X2_laidDistance
theorem dX2_lookAt_0 : decode cX2_lookAt 0 = .ok (.aload_n 0, 1) := by decide +kernel
theorem dX2_lookAt_1 : decode cX2_lookAt 1 = .ok (.iconst 0, 1) := by decide +kernel
theorem dX2_lookAt_2 : decode cX2_lookAt 2 = .ok (.putfield 76, 3) := by decide +kernel
theorem dX2_lookAt_5 : decode cX2_lookAt 5 = .ok (.aload_n 0, 1) := by decide +kernel
theorem dX2_lookAt_6 : decode cX2_lookAt 6 = .ok (.bipush (-2), 2) := by decide +kernel
theorem dX2_lookAt_8 : decode cX2_lookAt 8 = .ok (.putfield 79, 3) := by decide +kernel
theorem dX2_lookAt_11 : decode cX2_lookAt 11 = .ok (.aload_n 0, 1) := by decide +kernel
theorem dX2_lookAt_12 : decode cX2_lookAt 12 = .ok (.invokevirtual 82, 3) := by decide +kernel
theorem dX2_lookAt_15 : decode cX2_lookAt 15 = .ok (.iload_n 1, 1) := by decide +kernel
theorem dX2_lookAt_16 : decode cX2_lookAt 16 = .ok (.if_icmp .lt 5, 3) := by decide +kernel
theorem dX2_lookAt_19 : decode cX2_lookAt 19 = .ok (.iconst 1, 1) := by decide +kernel
theorem dX2_lookAt_20 : decode cX2_lookAt 20 = .ok (.ireturn, 1) := by decide +kernel
theorem dX2_lookAt_21 : decode cX2_lookAt 21 = .ok (.aload_n 0, 1) := by decide +kernel
theorem dX2_lookAt_22 : decode cX2_lookAt 22 = .ok (.aload_n 0, 1) := by decide +kernel
theorem dX2_lookAt_23 : decode cX2_lookAt 23 = .ok (.getfield 15, 3) := by decide +kernel
theorem dX2_lookAt_26 : decode cX2_lookAt 26 = .ok (.aload_n 0, 1) := by decide +kernel
theorem dX2_lookAt_27 : decode cX2_lookAt 27 = .ok (.getfield 9, 3) := by decide +kernel
theorem dX2_lookAt_30 : decode cX2_lookAt 30 = .ok (.invokevirtual 68, 3) := by decide +kernel
theorem dX2_lookAt_33 : decode cX2_lookAt 33 = .ok (.iload_n 1, 1) := by decide +kernel
theorem dX2_lookAt_34 : decode cX2_lookAt 34 = .ok (.if_icmp .lt 5, 3) := by decide +kernel
theorem dX2_lookAt_37 : decode cX2_lookAt 37 = .ok (.iconst 2, 1) := by decide +kernel
theorem dX2_lookAt_38 : decode cX2_lookAt 38 = .ok (.ireturn, 1) := by decide +kernel
theorem dX2_lookAt_39 : decode cX2_lookAt 39 = .ok (.aload_n 0, 1) := by decide +kernel
theorem dX2_lookAt_40 : decode cX2_lookAt 40 = .ok (.aload_n 0, 1) := by decide +kernel
theorem dX2_lookAt_41 : decode cX2_lookAt 41 = .ok (.getfield 9, 3) := by decide +kernel
theorem dX2_lookAt_44 : decode cX2_lookAt 44 = .ok (.aload_n 0, 1) := by decide +kernel
theorem dX2_lookAt_45 : decode cX2_lookAt 45 = .ok (.getfield 15, 3) := by decide +kernel
theorem dX2_lookAt_48 : decode cX2_lookAt 48 = .ok (.invokevirtual 68, 3) := by decide +kernel
theorem dX2_lookAt_51 : decode cX2_lookAt 51 = .ok (.iload_n 1, 1) := by decide +kernel
theorem dX2_lookAt_52 : decode cX2_lookAt 52 = .ok (.if_icmp .lt 5, 3) := by decide +kernel
theorem dX2_lookAt_55 : decode cX2_lookAt 55 = .ok (.iconst 3, 1) := by decide +kernel
theorem dX2_lookAt_56 : decode cX2_lookAt 56 = .ok (.ireturn, 1) := by decide +kernel
theorem dX2_lookAt_57 : decode cX2_lookAt 57 = .ok (.aload_n 0, 1) := by decide +kernel
theorem dX2_lookAt_58 : decode cX2_lookAt 58 = .ok (.iload_n 1, 1) := by decide +kernel
theorem dX2_lookAt_59 : decode cX2_lookAt 59 = .ok (.invokevirtual 86, 3) := by decide +kernel
theorem dX2_lookAt_62 : decode cX2_lookAt 62 = .ok (.aload_n 0, 1) := by decide +kernel
theorem dX2_lookAt_63 : decode cX2_lookAt 63 = .ok (.getfield 79, 3) := by decide +kernel
theorem dX2_lookAt_66 : decode cX2_lookAt 66 = .ok (.bipush (-2), 2) := by decide +kernel
theorem dX2_lookAt_68 : decode cX2_lookAt 68 = .ok (.if_icmp .eq 5, 3) := by decide +kernel
theorem dX2_lookAt_71 : decode cX2_lookAt 71 = .ok (.iconst 4, 1) := by decide +kernel
theorem dX2_lookAt_72 : decode cX2_lookAt 72 = .ok (.ireturn, 1) := by decide +kernel
theorem dX2_lookAt_73 : decode cX2_lookAt 73 = .ok (.aload_n 0, 1) := by decide +kernel
theorem dX2_lookAt_74 : decode cX2_lookAt 74 = .ok (.invokevirtual 90, 3) := by decide +kernel
theorem dX2_lookAt_77 : decode cX2_lookAt 77 = .ok (.iload_n 1, 1) := by decide +kernel
theorem dX2_lookAt_78 : decode cX2_lookAt 78 = .ok (.if_icmp .lt 7, 3) := by decide +kernel
theorem dX2_lookAt_81 : decode cX2_lookAt 81 = .ok (.iconst 5, 1) := by decide +kernel
theorem dX2_lookAt_82 : decode cX2_lookAt 82 = .ok (.goto 4, 3) := by decide +kernel
theorem dX2_lookAt_85 : decode cX2_lookAt 85 = .ok (.iconst 0, 1) := by decide +kernel
theorem dX2_lookAt_86 : decode cX2_lookAt 86 = .ok (.ireturn, 1) := by decide +kernel
set_option maxRecDepth 20000 in
theorem ggX2_isLess_X2_endsBound : GoodIn wsX2_isLess wsX2_endsBound := goodIn_r _ [6, 7, 8, 9, 10, 11, 12, 5, 13, 14, 42, 43, 44, 45, 46, 47, 48, 49, 50, 51] (by decide +kernel) (by decide +kernel)
set_option maxRecDepth 20000 in
theorem gX2_isLess_X2_endsBound : GoodIn wsX2_isLess (wsV RX2 82 RX2 yX2_endsBound wsX2_endsBound) := goodIn_app (goodIn_of _ (by decide +kernel)) ggX2_isLess_X2_endsBound
set_option maxRecDepth 20000 in
theorem ggX2_isLess_X2_layTable : GoodIn wsX2_isLess wsX2_layTable := goodIn_r _ [18, 19, 1, 7, 20, 21, 22, 5, 23, 24, 25, 26, 27, 28, 29, 30, 31, 32, 8, 9, 33, 10, 11, 12, 13, 14, 34, 35, 36, 37, 42, 43, 44, 45, 46, 47, 48, 49, 50, 51] (by decide +kernel) (by decide +kernel)
set_option maxRecDepth 20000 in
theorem gX2_isLess_X2_layTable : GoodIn wsX2_isLess (wsV RX2 86 RX2 yX2_layTable wsX2_layTable) := goodIn_app (goodIn_of _ (by decide +kernel)) ggX2_isLess_X2_layTable
set_option maxRecDepth 20000 in
theorem ggX2_isLess_X2_laidDistance : GoodIn wsX2_isLess wsX2_laidDistance := goodIn_r _ [41, 33, 7, 42, 43, 44, 45, 46, 47, 48, 49, 50, 51] (by decide +kernel) (by decide +kernel)
set_option maxRecDepth 20000 in
theorem gX2_isLess_X2_laidDistance : GoodIn wsX2_isLess (wsV RX2 90 RX2 yX2_laidDistance wsX2_laidDistance) := goodIn_app (goodIn_of _ (by decide +kernel)) ggX2_isLess_X2_laidDistance
theorem dX2_isLess_0 : decode cX2_isLess 0 = .ok (.aload_n 0, 1) := by decide +kernel
theorem dX2_isLess_1 : decode cX2_isLess 1 = .ok (.invokevirtual 82, 3) := by decide +kernel
theorem dX2_isLess_4 : decode cX2_isLess 4 = .ok (.iload_n 1, 1) := by decide +kernel
theorem dX2_isLess_5 : decode cX2_isLess 5 = .ok (.if_icmp .lt 5, 3) := by decide +kernel
theorem dX2_isLess_8 : decode cX2_isLess 8 = .ok (.iconst 0, 1) := by decide +kernel
theorem dX2_isLess_9 : decode cX2_isLess 9 = .ok (.ireturn, 1) := by decide +kernel
theorem dX2_isLess_10 : decode cX2_isLess 10 = .ok (.aload_n 0, 1) := by decide +kernel
theorem dX2_isLess_11 : decode cX2_isLess 11 = .ok (.iload_n 1, 1) := by decide +kernel
theorem dX2_isLess_12 : decode cX2_isLess 12 = .ok (.invokevirtual 86, 3) := by decide +kernel
theorem dX2_isLess_15 : decode cX2_isLess 15 = .ok (.aload_n 0, 1) := by decide +kernel
theorem dX2_isLess_16 : decode cX2_isLess 16 = .ok (.getfield 79, 3) := by decide +kernel
theorem dX2_isLess_19 : decode cX2_isLess 19 = .ok (.bipush (-2), 2) := by decide +kernel
theorem dX2_isLess_21 : decode cX2_isLess 21 = .ok (.if_icmp .ne 15, 3) := by decide +kernel
theorem dX2_isLess_24 : decode cX2_isLess 24 = .ok (.aload_n 0, 1) := by decide +kernel
theorem dX2_isLess_25 : decode cX2_isLess 25 = .ok (.invokevirtual 90, 3) := by decide +kernel
theorem dX2_isLess_28 : decode cX2_isLess 28 = .ok (.iload_n 1, 1) := by decide +kernel
theorem dX2_isLess_29 : decode cX2_isLess 29 = .ok (.if_icmp .ge 7, 3) := by decide +kernel
theorem dX2_isLess_32 : decode cX2_isLess 32 = .ok (.iconst 1, 1) := by decide +kernel
theorem dX2_isLess_33 : decode cX2_isLess 33 = .ok (.goto 4, 3) := by decide +kernel
theorem dX2_isLess_36 : decode cX2_isLess 36 = .ok (.iconst 0, 1) := by decide +kernel
theorem dX2_isLess_37 : decode cX2_isLess 37 = .ok (.ireturn, 1) := by decide +kernel
set_option maxRecDepth 20000 in
theorem ggX2_wholeDistance_X2_layTable : GoodIn wsX2_wholeDistance wsX2_layTable := goodIn_r _ [6, 7, 8, 9, 10, 11, 12, 5, 13, 14, 15, 16, 17, 18, 19, 20, 21, 1, 22, 23, 24, 25, 26, 27, 28, 29, 30, 31, 32, 33, 38, 39, 40, 41, 42, 43, 44, 45, 46, 47] (by decide +kernel) (by decide +kernel)
set_option maxRecDepth 20000 in
theorem gX2_wholeDistance_X2_layTable : GoodIn wsX2_wholeDistance (wsV RX2 86 RX2 yX2_layTable wsX2_layTable) := goodIn_app (goodIn_of _ (by decide +kernel)) ggX2_wholeDistance_X2_layTable
set_option maxRecDepth 20000 in
theorem ggX2_wholeDistance_X2_laidDistance : GoodIn wsX2_wholeDistance wsX2_laidDistance := goodIn_r _ [37, 24, 9, 38, 39, 40, 41, 42, 43, 44, 45, 46, 47] (by decide +kernel) (by decide +kernel)
set_option maxRecDepth 20000 in
theorem gX2_wholeDistance_X2_laidDistance : GoodIn wsX2_wholeDistance (wsV RX2 90 RX2 yX2_laidDistance wsX2_laidDistance) := goodIn_app (goodIn_of _ (by decide +kernel)) ggX2_wholeDistance_X2_laidDistance
theorem dX2_wholeDistance_0 : decode cX2_wholeDistance 0 = .ok (.aload_n 0, 1) := by decide +kernel
theorem dX2_wholeDistance_1 : decode cX2_wholeDistance 1 = .ok (.ldc 93, 2) := by decide +kernel
theorem dX2_wholeDistance_3 : decode cX2_wholeDistance 3 = .ok (.invokevirtual 86, 3) := by decide +kernel
theorem dX2_wholeDistance_6 : decode cX2_wholeDistance 6 = .ok (.aload_n 0, 1) := by decide +kernel
theorem dX2_wholeDistance_7 : decode cX2_wholeDistance 7 = .ok (.invokevirtual 90, 3) := by decide +kernel
theorem dX2_wholeDistance_10 : decode cX2_wholeDistance 10 = .ok (.ireturn, 1) := by decide +kernel
theorem dX2_laidDistance_0 : decode cX2_laidDistance 0 = .ok (.aload_n 0, 1) := by decide +kernel
theorem dX2_laidDistance_1 : decode cX2_laidDistance 1 = .ok (.getfield 18, 3) := by decide +kernel
theorem dX2_laidDistance_4 : decode cX2_laidDistance 4 = .ok (.aload_n 0, 1) := by decide +kernel
theorem dX2_laidDistance_5 : decode cX2_laidDistance 5 = .ok (.getfield 24, 3) := by decide +kernel
theorem dX2_laidDistance_8 : decode cX2_laidDistance 8 = .ok (.iconst 1, 1) := by decide +kernel
theorem dX2_laidDistance_9 : decode cX2_laidDistance 9 = .ok (.isub, 1) := by decide +kernel
theorem dX2_laidDistance_10 : decode cX2_laidDistance 10 = .ok (.bipush 16, 2) := by decide +kernel
theorem dX2_laidDistance_12 : decode cX2_laidDistance 12 = .ok (.imul, 1) := by decide +kernel
theorem dX2_laidDistance_13 : decode cX2_laidDistance 13 = .ok (.aload_n 0, 1) := by decide +kernel
theorem dX2_laidDistance_14 : decode cX2_laidDistance 14 = .ok (.getfield 24, 3) := by decide +kernel
theorem dX2_laidDistance_17 : decode cX2_laidDistance 17 = .ok (.iadd, 1) := by decide +kernel
theorem dX2_laidDistance_18 : decode cX2_laidDistance 18 = .ok (.iconst 1, 1) := by decide +kernel
theorem dX2_laidDistance_19 : decode cX2_laidDistance 19 = .ok (.isub, 1) := by decide +kernel
theorem dX2_laidDistance_20 : decode cX2_laidDistance 20 = .ok (.iaload, 1) := by decide +kernel
theorem dX2_laidDistance_21 : decode cX2_laidDistance 21 = .ok (.ireturn, 1) := by decide +kernel
set_option maxRecDepth 20000 in
theorem ggX2_layTable_X2_layRow : GoodIn wsX2_layTable wsX2_layRow := goodIn_r _ [8, 9, 10, 11, 12, 13, 3, 14, 15, 16, 17, 18, 19, 20, 1, 21, 22, 23, 7, 24, 25, 26, 27, 28, 29, 30, 31, 32, 33, 34, 35, 36, 37, 38, 39] (by decide +kernel) (by decide +kernel)
set_option maxRecDepth 20000 in
theorem gX2_layTable_X2_layRow : GoodIn wsX2_layTable (wsV RX2 94 RX2 yX2_layRow wsX2_layRow) := goodIn_app (goodIn_of _ (by decide +kernel)) ggX2_layTable_X2_layRow
theorem dX2_layTable_0 : decode cX2_layTable 0 = .ok (.aload_n 0, 1) := by decide +kernel
theorem dX2_layTable_1 : decode cX2_layTable 1 = .ok (.iconst 0, 1) := by decide +kernel
theorem dX2_layTable_2 : decode cX2_layTable 2 = .ok (.putfield 76, 3) := by decide +kernel
theorem dX2_layTable_5 : decode cX2_layTable 5 = .ok (.aload_n 0, 1) := by decide +kernel
theorem dX2_layTable_6 : decode cX2_layTable 6 = .ok (.bipush (-2), 2) := by decide +kernel
theorem dX2_layTable_8 : decode cX2_layTable 8 = .ok (.putfield 79, 3) := by decide +kernel
theorem dX2_layTable_11 : decode cX2_layTable 11 = .ok (.iconst 0, 1) := by decide +kernel
theorem dX2_layTable_12 : decode cX2_layTable 12 = .ok (.istore_n 2, 1) := by decide +kernel
theorem dX2_layTable_13 : decode cX2_layTable 13 = .ok (.iload_n 2, 1) := by decide +kernel
theorem dX2_layTable_14 : decode cX2_layTable 14 = .ok (.aload_n 0, 1) := by decide +kernel
theorem dX2_layTable_15 : decode cX2_layTable 15 = .ok (.getfield 24, 3) := by decide +kernel
theorem dX2_layTable_18 : decode cX2_layTable 18 = .ok (.if_icmp .ge 24, 3) := by decide +kernel
theorem dX2_layTable_21 : decode cX2_layTable 21 = .ok (.aload_n 0, 1) := by decide +kernel
theorem dX2_layTable_22 : decode cX2_layTable 22 = .ok (.iload_n 2, 1) := by decide +kernel
theorem dX2_layTable_23 : decode cX2_layTable 23 = .ok (.invokevirtual 94, 3) := by decide +kernel
theorem dX2_layTable_26 : decode cX2_layTable 26 = .ok (.iload_n 1, 1) := by decide +kernel
theorem dX2_layTable_27 : decode cX2_layTable 27 = .ok (.if_icmp .lt 9, 3) := by decide +kernel
theorem dX2_layTable_30 : decode cX2_layTable 30 = .ok (.aload_n 0, 1) := by decide +kernel
theorem dX2_layTable_31 : decode cX2_layTable 31 = .ok (.iload_n 2, 1) := by decide +kernel
theorem dX2_layTable_32 : decode cX2_layTable 32 = .ok (.putfield 79, 3) := by decide +kernel
theorem dX2_layTable_35 : decode cX2_layTable 35 = .ok (.return_, 1) := by decide +kernel
theorem dX2_layTable_36 : decode cX2_layTable 36 = .ok (.iinc 2 1, 3) := by decide +kernel
theorem dX2_layTable_39 : decode cX2_layTable 39 = .ok (.goto (-26), 3) := by decide +kernel
theorem dX2_layTable_42 : decode cX2_layTable 42 = .ok (.return_, 1) := by decide +kernel
set_option maxRecDepth 20000 in
theorem ggX2_layRow_X2_costOf : GoodIn wsX2_layRow wsX2_costOf := goodIn_r _ [19, 20, 25, 26, 27, 28, 29, 30, 31, 32, 33, 34] (by decide +kernel) (by decide +kernel)
set_option maxRecDepth 20000 in
theorem gX2_layRow_X2_costOf : GoodIn wsX2_layRow (wsV RX2 65 RX2 yX2_costOf wsX2_costOf) := goodIn_app (goodIn_of _ (by decide +kernel)) ggX2_layRow_X2_costOf
set_option maxRecDepth 20000 in
theorem ggX2_layRow_X2_leastAhead : GoodIn wsX2_layRow wsX2_leastAhead := goodIn_r _ [24, 10, 13, 1, 25, 26, 27, 28, 29, 30, 31, 32, 33, 34] (by decide +kernel) (by decide +kernel)
set_option maxRecDepth 20000 in
theorem gX2_layRow_X2_leastAhead : GoodIn wsX2_layRow (wsV RX2 98 RX2 yX2_leastAhead wsX2_leastAhead) := goodIn_app (goodIn_of _ (by decide +kernel)) ggX2_layRow_X2_leastAhead
theorem dX2_layRow_0 : decode cX2_layRow 0 = .ok (.iconst 0, 1) := by decide +kernel
theorem dX2_layRow_1 : decode cX2_layRow 1 = .ok (.iload_n 1, 1) := by decide +kernel
theorem dX2_layRow_2 : decode cX2_layRow 2 = .ok (.aload_n 0, 1) := by decide +kernel
theorem dX2_layRow_3 : decode cX2_layRow 3 = .ok (.getfield 37, 3) := by decide +kernel
theorem dX2_layRow_6 : decode cX2_layRow 6 = .ok (.isub, 1) := by decide +kernel
theorem dX2_layRow_7 : decode cX2_layRow 7 = .ok (.invokestatic 34, 3) := by decide +kernel
theorem dX2_layRow_10 : decode cX2_layRow 10 = .ok (.istore_n 2, 1) := by decide +kernel
theorem dX2_layRow_11 : decode cX2_layRow 11 = .ok (.aload_n 0, 1) := by decide +kernel
theorem dX2_layRow_12 : decode cX2_layRow 12 = .ok (.getfield 24, 3) := by decide +kernel
theorem dX2_layRow_15 : decode cX2_layRow 15 = .ok (.iconst 1, 1) := by decide +kernel
theorem dX2_layRow_16 : decode cX2_layRow 16 = .ok (.isub, 1) := by decide +kernel
theorem dX2_layRow_17 : decode cX2_layRow 17 = .ok (.iload_n 1, 1) := by decide +kernel
theorem dX2_layRow_18 : decode cX2_layRow 18 = .ok (.aload_n 0, 1) := by decide +kernel
theorem dX2_layRow_19 : decode cX2_layRow 19 = .ok (.getfield 37, 3) := by decide +kernel
theorem dX2_layRow_22 : decode cX2_layRow 22 = .ok (.iadd, 1) := by decide +kernel
theorem dX2_layRow_23 : decode cX2_layRow 23 = .ok (.invokestatic 28, 3) := by decide +kernel
theorem dX2_layRow_26 : decode cX2_layRow 26 = .ok (.istore_n 3, 1) := by decide +kernel
theorem dX2_layRow_27 : decode cX2_layRow 27 = .ok (.ldc 93, 2) := by decide +kernel
theorem dX2_layRow_29 : decode cX2_layRow 29 = .ok (.istore 4, 2) := by decide +kernel
theorem dX2_layRow_31 : decode cX2_layRow 31 = .ok (.iload_n 2, 1) := by decide +kernel
theorem dX2_layRow_32 : decode cX2_layRow 32 = .ok (.istore 5, 2) := by decide +kernel
theorem dX2_layRow_34 : decode cX2_layRow 34 = .ok (.iload 5, 2) := by decide +kernel
theorem dX2_layRow_36 : decode cX2_layRow 36 = .ok (.iload_n 3, 1) := by decide +kernel
theorem dX2_layRow_37 : decode cX2_layRow 37 = .ok (.if_icmp .gt 74, 3) := by decide +kernel
theorem dX2_layRow_40 : decode cX2_layRow 40 = .ok (.aload_n 0, 1) := by decide +kernel
theorem dX2_layRow_41 : decode cX2_layRow 41 = .ok (.aload_n 0, 1) := by decide +kernel
theorem dX2_layRow_42 : decode cX2_layRow 42 = .ok (.getfield 9, 3) := by decide +kernel
theorem dX2_layRow_45 : decode cX2_layRow 45 = .ok (.iload_n 1, 1) := by decide +kernel
theorem dX2_layRow_46 : decode cX2_layRow 46 = .ok (.iaload, 1) := by decide +kernel
theorem dX2_layRow_47 : decode cX2_layRow 47 = .ok (.aload_n 0, 1) := by decide +kernel
theorem dX2_layRow_48 : decode cX2_layRow 48 = .ok (.getfield 15, 3) := by decide +kernel
theorem dX2_layRow_51 : decode cX2_layRow 51 = .ok (.iload 5, 2) := by decide +kernel
theorem dX2_layRow_53 : decode cX2_layRow 53 = .ok (.iaload, 1) := by decide +kernel
theorem dX2_layRow_54 : decode cX2_layRow 54 = .ok (.invokevirtual 65, 3) := by decide +kernel
theorem dX2_layRow_57 : decode cX2_layRow 57 = .ok (.istore 6, 2) := by decide +kernel
theorem dX2_layRow_59 : decode cX2_layRow 59 = .ok (.iload_n 1, 1) := by decide +kernel
theorem dX2_layRow_60 : decode cX2_layRow 60 = .ok (.ifCond .gt 8, 3) := by decide +kernel
theorem dX2_layRow_63 : decode cX2_layRow 63 = .ok (.iload 5, 2) := by decide +kernel
theorem dX2_layRow_65 : decode cX2_layRow 65 = .ok (.ifCond .le 15, 3) := by decide +kernel
theorem dX2_layRow_68 : decode cX2_layRow 68 = .ok (.iload 6, 2) := by decide +kernel
theorem dX2_layRow_70 : decode cX2_layRow 70 = .ok (.aload_n 0, 1) := by decide +kernel
theorem dX2_layRow_71 : decode cX2_layRow 71 = .ok (.iload_n 1, 1) := by decide +kernel
theorem dX2_layRow_72 : decode cX2_layRow 72 = .ok (.iload 5, 2) := by decide +kernel
theorem dX2_layRow_74 : decode cX2_layRow 74 = .ok (.invokevirtual 98, 3) := by decide +kernel
theorem dX2_layRow_77 : decode cX2_layRow 77 = .ok (.iadd, 1) := by decide +kernel
theorem dX2_layRow_78 : decode cX2_layRow 78 = .ok (.istore 6, 2) := by decide +kernel
theorem dX2_layRow_80 : decode cX2_layRow 80 = .ok (.aload_n 0, 1) := by decide +kernel
theorem dX2_layRow_81 : decode cX2_layRow 81 = .ok (.getfield 18, 3) := by decide +kernel
theorem dX2_layRow_84 : decode cX2_layRow 84 = .ok (.iload_n 1, 1) := by decide +kernel
theorem dX2_layRow_85 : decode cX2_layRow 85 = .ok (.bipush 16, 2) := by decide +kernel
theorem dX2_layRow_87 : decode cX2_layRow 87 = .ok (.imul, 1) := by decide +kernel
theorem dX2_layRow_88 : decode cX2_layRow 88 = .ok (.iload 5, 2) := by decide +kernel
theorem dX2_layRow_90 : decode cX2_layRow 90 = .ok (.iadd, 1) := by decide +kernel
theorem dX2_layRow_91 : decode cX2_layRow 91 = .ok (.iload 6, 2) := by decide +kernel
theorem dX2_layRow_93 : decode cX2_layRow 93 = .ok (.iastore, 1) := by decide +kernel
theorem dX2_layRow_94 : decode cX2_layRow 94 = .ok (.iload 6, 2) := by decide +kernel
theorem dX2_layRow_96 : decode cX2_layRow 96 = .ok (.iload 4, 2) := by decide +kernel
theorem dX2_layRow_98 : decode cX2_layRow 98 = .ok (.if_icmp .ge 7, 3) := by decide +kernel
theorem dX2_layRow_101 : decode cX2_layRow 101 = .ok (.iload 6, 2) := by decide +kernel
theorem dX2_layRow_103 : decode cX2_layRow 103 = .ok (.istore 4, 2) := by decide +kernel
theorem dX2_layRow_105 : decode cX2_layRow 105 = .ok (.iinc 5 1, 3) := by decide +kernel
theorem dX2_layRow_108 : decode cX2_layRow 108 = .ok (.goto (-74), 3) := by decide +kernel
theorem dX2_layRow_111 : decode cX2_layRow 111 = .ok (.aload_n 0, 1) := by decide +kernel
theorem dX2_layRow_112 : decode cX2_layRow 112 = .ok (.dup, 1) := by decide +kernel
theorem dX2_layRow_113 : decode cX2_layRow 113 = .ok (.getfield 76, 3) := by decide +kernel
theorem dX2_layRow_116 : decode cX2_layRow 116 = .ok (.iload_n 3, 1) := by decide +kernel
theorem dX2_layRow_117 : decode cX2_layRow 117 = .ok (.iload_n 2, 1) := by decide +kernel
theorem dX2_layRow_118 : decode cX2_layRow 118 = .ok (.isub, 1) := by decide +kernel
theorem dX2_layRow_119 : decode cX2_layRow 119 = .ok (.iconst 1, 1) := by decide +kernel
theorem dX2_layRow_120 : decode cX2_layRow 120 = .ok (.iadd, 1) := by decide +kernel
theorem dX2_layRow_121 : decode cX2_layRow 121 = .ok (.iadd, 1) := by decide +kernel
theorem dX2_layRow_122 : decode cX2_layRow 122 = .ok (.putfield 76, 3) := by decide +kernel
theorem dX2_layRow_125 : decode cX2_layRow 125 = .ok (.iload 4, 2) := by decide +kernel
theorem dX2_layRow_127 : decode cX2_layRow 127 = .ok (.ireturn, 1) := by decide +kernel
theorem dX2_leastAhead_0 : decode cX2_leastAhead 0 = .ok (.iload_n 1, 1) := by decide +kernel
theorem dX2_leastAhead_1 : decode cX2_leastAhead 1 = .ok (.bipush 16, 2) := by decide +kernel
theorem dX2_leastAhead_3 : decode cX2_leastAhead 3 = .ok (.imul, 1) := by decide +kernel
theorem dX2_leastAhead_4 : decode cX2_leastAhead 4 = .ok (.iload_n 2, 1) := by decide +kernel
theorem dX2_leastAhead_5 : decode cX2_leastAhead 5 = .ok (.iadd, 1) := by decide +kernel
theorem dX2_leastAhead_6 : decode cX2_leastAhead 6 = .ok (.istore_n 3, 1) := by decide +kernel
theorem dX2_leastAhead_7 : decode cX2_leastAhead 7 = .ok (.ldc 93, 2) := by decide +kernel
theorem dX2_leastAhead_9 : decode cX2_leastAhead 9 = .ok (.istore 4, 2) := by decide +kernel
theorem dX2_leastAhead_11 : decode cX2_leastAhead 11 = .ok (.iload_n 1, 1) := by decide +kernel
theorem dX2_leastAhead_12 : decode cX2_leastAhead 12 = .ok (.ifCond .le 20, 3) := by decide +kernel
theorem dX2_leastAhead_15 : decode cX2_leastAhead 15 = .ok (.iload_n 2, 1) := by decide +kernel
theorem dX2_leastAhead_16 : decode cX2_leastAhead 16 = .ok (.ifCond .le 16, 3) := by decide +kernel
theorem dX2_leastAhead_19 : decode cX2_leastAhead 19 = .ok (.aload_n 0, 1) := by decide +kernel
theorem dX2_leastAhead_20 : decode cX2_leastAhead 20 = .ok (.getfield 18, 3) := by decide +kernel
theorem dX2_leastAhead_23 : decode cX2_leastAhead 23 = .ok (.iload_n 3, 1) := by decide +kernel
theorem dX2_leastAhead_24 : decode cX2_leastAhead 24 = .ok (.bipush 16, 2) := by decide +kernel
theorem dX2_leastAhead_26 : decode cX2_leastAhead 26 = .ok (.isub, 1) := by decide +kernel
theorem dX2_leastAhead_27 : decode cX2_leastAhead 27 = .ok (.iconst 1, 1) := by decide +kernel
theorem dX2_leastAhead_28 : decode cX2_leastAhead 28 = .ok (.isub, 1) := by decide +kernel
theorem dX2_leastAhead_29 : decode cX2_leastAhead 29 = .ok (.iaload, 1) := by decide +kernel
theorem dX2_leastAhead_30 : decode cX2_leastAhead 30 = .ok (.istore 4, 2) := by decide +kernel
theorem dX2_leastAhead_32 : decode cX2_leastAhead 32 = .ok (.iload_n 1, 1) := by decide +kernel
theorem dX2_leastAhead_33 : decode cX2_leastAhead 33 = .ok (.ifCond .le 38, 3) := by decide +kernel
theorem dX2_leastAhead_36 : decode cX2_leastAhead 36 = .ok (.iload_n 2, 1) := by decide +kernel
theorem dX2_leastAhead_37 : decode cX2_leastAhead 37 = .ok (.iload_n 1, 1) := by decide +kernel
theorem dX2_leastAhead_38 : decode cX2_leastAhead 38 = .ok (.isub, 1) := by decide +kernel
theorem dX2_leastAhead_39 : decode cX2_leastAhead 39 = .ok (.aload_n 0, 1) := by decide +kernel
theorem dX2_leastAhead_40 : decode cX2_leastAhead 40 = .ok (.getfield 37, 3) := by decide +kernel
theorem dX2_leastAhead_43 : decode cX2_leastAhead 43 = .ok (.if_icmp .ge 28, 3) := by decide +kernel
theorem dX2_leastAhead_46 : decode cX2_leastAhead 46 = .ok (.aload_n 0, 1) := by decide +kernel
theorem dX2_leastAhead_47 : decode cX2_leastAhead 47 = .ok (.getfield 18, 3) := by decide +kernel
theorem dX2_leastAhead_50 : decode cX2_leastAhead 50 = .ok (.iload_n 3, 1) := by decide +kernel
theorem dX2_leastAhead_51 : decode cX2_leastAhead 51 = .ok (.bipush 16, 2) := by decide +kernel
theorem dX2_leastAhead_53 : decode cX2_leastAhead 53 = .ok (.isub, 1) := by decide +kernel
theorem dX2_leastAhead_54 : decode cX2_leastAhead 54 = .ok (.iaload, 1) := by decide +kernel
theorem dX2_leastAhead_55 : decode cX2_leastAhead 55 = .ok (.iload 4, 2) := by decide +kernel
theorem dX2_leastAhead_57 : decode cX2_leastAhead 57 = .ok (.if_icmp .ge 14, 3) := by decide +kernel
theorem dX2_leastAhead_60 : decode cX2_leastAhead 60 = .ok (.aload_n 0, 1) := by decide +kernel
theorem dX2_leastAhead_61 : decode cX2_leastAhead 61 = .ok (.getfield 18, 3) := by decide +kernel
theorem dX2_leastAhead_64 : decode cX2_leastAhead 64 = .ok (.iload_n 3, 1) := by decide +kernel
theorem dX2_leastAhead_65 : decode cX2_leastAhead 65 = .ok (.bipush 16, 2) := by decide +kernel
theorem dX2_leastAhead_67 : decode cX2_leastAhead 67 = .ok (.isub, 1) := by decide +kernel
theorem dX2_leastAhead_68 : decode cX2_leastAhead 68 = .ok (.iaload, 1) := by decide +kernel
theorem dX2_leastAhead_69 : decode cX2_leastAhead 69 = .ok (.istore 4, 2) := by decide +kernel
theorem dX2_leastAhead_71 : decode cX2_leastAhead 71 = .ok (.iload_n 2, 1) := by decide +kernel
theorem dX2_leastAhead_72 : decode cX2_leastAhead 72 = .ok (.ifCond .le 36, 3) := by decide +kernel
theorem dX2_leastAhead_75 : decode cX2_leastAhead 75 = .ok (.iload_n 1, 1) := by decide +kernel
theorem dX2_leastAhead_76 : decode cX2_leastAhead 76 = .ok (.iload_n 2, 1) := by decide +kernel
theorem dX2_leastAhead_77 : decode cX2_leastAhead 77 = .ok (.isub, 1) := by decide +kernel
theorem dX2_leastAhead_78 : decode cX2_leastAhead 78 = .ok (.aload_n 0, 1) := by decide +kernel
theorem dX2_leastAhead_79 : decode cX2_leastAhead 79 = .ok (.getfield 37, 3) := by decide +kernel
theorem dX2_leastAhead_82 : decode cX2_leastAhead 82 = .ok (.if_icmp .ge 26, 3) := by decide +kernel
theorem dX2_leastAhead_85 : decode cX2_leastAhead 85 = .ok (.aload_n 0, 1) := by decide +kernel
theorem dX2_leastAhead_86 : decode cX2_leastAhead 86 = .ok (.getfield 18, 3) := by decide +kernel
theorem dX2_leastAhead_89 : decode cX2_leastAhead 89 = .ok (.iload_n 3, 1) := by decide +kernel
theorem dX2_leastAhead_90 : decode cX2_leastAhead 90 = .ok (.iconst 1, 1) := by decide +kernel
theorem dX2_leastAhead_91 : decode cX2_leastAhead 91 = .ok (.isub, 1) := by decide +kernel
theorem dX2_leastAhead_92 : decode cX2_leastAhead 92 = .ok (.iaload, 1) := by decide +kernel
theorem dX2_leastAhead_93 : decode cX2_leastAhead 93 = .ok (.iload 4, 2) := by decide +kernel
theorem dX2_leastAhead_95 : decode cX2_leastAhead 95 = .ok (.if_icmp .ge 13, 3) := by decide +kernel
theorem dX2_leastAhead_98 : decode cX2_leastAhead 98 = .ok (.aload_n 0, 1) := by decide +kernel
theorem dX2_leastAhead_99 : decode cX2_leastAhead 99 = .ok (.getfield 18, 3) := by decide +kernel
theorem dX2_leastAhead_102 : decode cX2_leastAhead 102 = .ok (.iload_n 3, 1) := by decide +kernel
theorem dX2_leastAhead_103 : decode cX2_leastAhead 103 = .ok (.iconst 1, 1) := by decide +kernel
theorem dX2_leastAhead_104 : decode cX2_leastAhead 104 = .ok (.isub, 1) := by decide +kernel
theorem dX2_leastAhead_105 : decode cX2_leastAhead 105 = .ok (.iaload, 1) := by decide +kernel
theorem dX2_leastAhead_106 : decode cX2_leastAhead 106 = .ok (.istore 4, 2) := by decide +kernel
theorem dX2_leastAhead_108 : decode cX2_leastAhead 108 = .ok (.iload 4, 2) := by decide +kernel
theorem dX2_leastAhead_110 : decode cX2_leastAhead 110 = .ok (.ireturn, 1) := by decide +kernel
theorem dX2_cellAt_0 : decode cX2_cellAt 0 = .ok (.iload_n 1, 1) := by decide +kernel
theorem dX2_cellAt_1 : decode cX2_cellAt 1 = .ok (.ifCond .lt 47, 3) := by decide +kernel
theorem dX2_cellAt_4 : decode cX2_cellAt 4 = .ok (.iload_n 2, 1) := by decide +kernel
theorem dX2_cellAt_5 : decode cX2_cellAt 5 = .ok (.ifCond .lt 43, 3) := by decide +kernel
theorem dX2_cellAt_8 : decode cX2_cellAt 8 = .ok (.iload_n 1, 1) := by decide +kernel
theorem dX2_cellAt_9 : decode cX2_cellAt 9 = .ok (.aload_n 0, 1) := by decide +kernel
theorem dX2_cellAt_10 : decode cX2_cellAt 10 = .ok (.getfield 24, 3) := by decide +kernel
theorem dX2_cellAt_13 : decode cX2_cellAt 13 = .ok (.if_icmp .ge 35, 3) := by decide +kernel
theorem dX2_cellAt_16 : decode cX2_cellAt 16 = .ok (.iload_n 2, 1) := by decide +kernel
theorem dX2_cellAt_17 : decode cX2_cellAt 17 = .ok (.aload_n 0, 1) := by decide +kernel
theorem dX2_cellAt_18 : decode cX2_cellAt 18 = .ok (.getfield 24, 3) := by decide +kernel
theorem dX2_cellAt_21 : decode cX2_cellAt 21 = .ok (.if_icmp .ge 27, 3) := by decide +kernel
theorem dX2_cellAt_24 : decode cX2_cellAt 24 = .ok (.iload_n 1, 1) := by decide +kernel
theorem dX2_cellAt_25 : decode cX2_cellAt 25 = .ok (.iload_n 2, 1) := by decide +kernel
theorem dX2_cellAt_26 : decode cX2_cellAt 26 = .ok (.isub, 1) := by decide +kernel
theorem dX2_cellAt_27 : decode cX2_cellAt 27 = .ok (.aload_n 0, 1) := by decide +kernel
theorem dX2_cellAt_28 : decode cX2_cellAt 28 = .ok (.getfield 37, 3) := by decide +kernel
theorem dX2_cellAt_31 : decode cX2_cellAt 31 = .ok (.if_icmp .gt 17, 3) := by decide +kernel
theorem dX2_cellAt_34 : decode cX2_cellAt 34 = .ok (.iload_n 2, 1) := by decide +kernel
theorem dX2_cellAt_35 : decode cX2_cellAt 35 = .ok (.iload_n 1, 1) := by decide +kernel
theorem dX2_cellAt_36 : decode cX2_cellAt 36 = .ok (.isub, 1) := by decide +kernel
theorem dX2_cellAt_37 : decode cX2_cellAt 37 = .ok (.aload_n 0, 1) := by decide +kernel
theorem dX2_cellAt_38 : decode cX2_cellAt 38 = .ok (.getfield 37, 3) := by decide +kernel
theorem dX2_cellAt_41 : decode cX2_cellAt 41 = .ok (.if_icmp .gt 7, 3) := by decide +kernel
theorem dX2_cellAt_44 : decode cX2_cellAt 44 = .ok (.iconst 1, 1) := by decide +kernel
theorem dX2_cellAt_45 : decode cX2_cellAt 45 = .ok (.goto 4, 3) := by decide +kernel
theorem dX2_cellAt_48 : decode cX2_cellAt 48 = .ok (.iconst 0, 1) := by decide +kernel
theorem dX2_cellAt_49 : decode cX2_cellAt 49 = .ok (.istore_n 3, 1) := by decide +kernel
theorem dX2_cellAt_50 : decode cX2_cellAt 50 = .ok (.iload_n 3, 1) := by decide +kernel
theorem dX2_cellAt_51 : decode cX2_cellAt 51 = .ok (.ifCond .eq 17, 3) := by decide +kernel
theorem dX2_cellAt_54 : decode cX2_cellAt 54 = .ok (.aload_n 0, 1) := by decide +kernel
theorem dX2_cellAt_55 : decode cX2_cellAt 55 = .ok (.getfield 18, 3) := by decide +kernel
theorem dX2_cellAt_58 : decode cX2_cellAt 58 = .ok (.iload_n 1, 1) := by decide +kernel
theorem dX2_cellAt_59 : decode cX2_cellAt 59 = .ok (.bipush 16, 2) := by decide +kernel
theorem dX2_cellAt_61 : decode cX2_cellAt 61 = .ok (.imul, 1) := by decide +kernel
theorem dX2_cellAt_62 : decode cX2_cellAt 62 = .ok (.iload_n 2, 1) := by decide +kernel
theorem dX2_cellAt_63 : decode cX2_cellAt 63 = .ok (.iadd, 1) := by decide +kernel
theorem dX2_cellAt_64 : decode cX2_cellAt 64 = .ok (.iaload, 1) := by decide +kernel
theorem dX2_cellAt_65 : decode cX2_cellAt 65 = .ok (.goto 5, 3) := by decide +kernel
theorem dX2_cellAt_68 : decode cX2_cellAt 68 = .ok (.ldc 93, 2) := by decide +kernel
theorem dX2_cellAt_70 : decode cX2_cellAt 70 = .ok (.ireturn, 1) := by decide +kernel
set_option maxRecDepth 20000 in
theorem ggX2_traceWay_X2_layTable : GoodIn wsX2_traceWay wsX2_layTable := goodIn_r _ [9, 10, 11, 3, 12, 13, 14, 8, 15, 16, 17, 18, 19, 20, 21, 22, 23, 1, 24, 25, 26, 27, 28, 29, 30, 31, 32, 33, 34, 35, 40, 41, 42, 43, 44, 45, 46, 47, 48, 49] (by decide +kernel) (by decide +kernel)
set_option maxRecDepth 20000 in
theorem gX2_traceWay_X2_layTable : GoodIn wsX2_traceWay (wsV RX2 86 RX2 yX2_layTable wsX2_layTable) := goodIn_app (goodIn_of _ (by decide +kernel)) ggX2_traceWay_X2_layTable
set_option maxRecDepth 20000 in
theorem ggX2_traceWay_X2_cellAt : GoodIn wsX2_traceWay wsX2_cellAt := goodIn_r _ [39, 3, 16, 26, 1, 40, 41, 42, 43, 44, 45, 46, 47, 48, 49] (by decide +kernel) (by decide +kernel)
set_option maxRecDepth 20000 in
theorem gX2_traceWay_X2_cellAt : GoodIn wsX2_traceWay (wsV RX2 104 RX2 yX2_cellAt wsX2_cellAt) := goodIn_app (goodIn_of _ (by decide +kernel)) ggX2_traceWay_X2_cellAt
theorem dX2_traceWay_0 : decode cX2_traceWay 0 = .ok (.aload_n 0, 1) := by decide +kernel
theorem dX2_traceWay_1 : decode cX2_traceWay 1 = .ok (.ldc 93, 2) := by decide +kernel
theorem dX2_traceWay_3 : decode cX2_traceWay 3 = .ok (.invokevirtual 86, 3) := by decide +kernel
theorem dX2_traceWay_6 : decode cX2_traceWay 6 = .ok (.aload_n 0, 1) := by decide +kernel
theorem dX2_traceWay_7 : decode cX2_traceWay 7 = .ok (.iconst 0, 1) := by decide +kernel
theorem dX2_traceWay_8 : decode cX2_traceWay 8 = .ok (.putfield 101, 3) := by decide +kernel
theorem dX2_traceWay_11 : decode cX2_traceWay 11 = .ok (.aload_n 0, 1) := by decide +kernel
theorem dX2_traceWay_12 : decode cX2_traceWay 12 = .ok (.getfield 24, 3) := by decide +kernel
theorem dX2_traceWay_15 : decode cX2_traceWay 15 = .ok (.iconst 1, 1) := by decide +kernel
theorem dX2_traceWay_16 : decode cX2_traceWay 16 = .ok (.isub, 1) := by decide +kernel
theorem dX2_traceWay_17 : decode cX2_traceWay 17 = .ok (.istore_n 1, 1) := by decide +kernel
theorem dX2_traceWay_18 : decode cX2_traceWay 18 = .ok (.aload_n 0, 1) := by decide +kernel
theorem dX2_traceWay_19 : decode cX2_traceWay 19 = .ok (.getfield 24, 3) := by decide +kernel
theorem dX2_traceWay_22 : decode cX2_traceWay 22 = .ok (.iconst 1, 1) := by decide +kernel
theorem dX2_traceWay_23 : decode cX2_traceWay 23 = .ok (.isub, 1) := by decide +kernel
theorem dX2_traceWay_24 : decode cX2_traceWay 24 = .ok (.istore_n 2, 1) := by decide +kernel
theorem dX2_traceWay_25 : decode cX2_traceWay 25 = .ok (.iconst 0, 1) := by decide +kernel
theorem dX2_traceWay_26 : decode cX2_traceWay 26 = .ok (.istore_n 3, 1) := by decide +kernel
theorem dX2_traceWay_27 : decode cX2_traceWay 27 = .ok (.iload_n 3, 1) := by decide +kernel
theorem dX2_traceWay_28 : decode cX2_traceWay 28 = .ok (.aload_n 0, 1) := by decide +kernel
theorem dX2_traceWay_29 : decode cX2_traceWay 29 = .ok (.getfield 21, 3) := by decide +kernel
theorem dX2_traceWay_32 : decode cX2_traceWay 32 = .ok (.arraylength, 1) := by decide +kernel
theorem dX2_traceWay_33 : decode cX2_traceWay 33 = .ok (.if_icmp .ge 107, 3) := by decide +kernel
theorem dX2_traceWay_36 : decode cX2_traceWay 36 = .ok (.iload_n 1, 1) := by decide +kernel
theorem dX2_traceWay_37 : decode cX2_traceWay 37 = .ok (.ifCond .lt 103, 3) := by decide +kernel
theorem dX2_traceWay_40 : decode cX2_traceWay 40 = .ok (.iload_n 2, 1) := by decide +kernel
theorem dX2_traceWay_41 : decode cX2_traceWay 41 = .ok (.ifCond .lt 99, 3) := by decide +kernel
theorem dX2_traceWay_44 : decode cX2_traceWay 44 = .ok (.aload_n 0, 1) := by decide +kernel
theorem dX2_traceWay_45 : decode cX2_traceWay 45 = .ok (.getfield 21, 3) := by decide +kernel
theorem dX2_traceWay_48 : decode cX2_traceWay 48 = .ok (.iload_n 3, 1) := by decide +kernel
theorem dX2_traceWay_49 : decode cX2_traceWay 49 = .ok (.bipush 100, 2) := by decide +kernel
theorem dX2_traceWay_51 : decode cX2_traceWay 51 = .ok (.iload_n 1, 1) := by decide +kernel
theorem dX2_traceWay_52 : decode cX2_traceWay 52 = .ok (.imul, 1) := by decide +kernel
theorem dX2_traceWay_53 : decode cX2_traceWay 53 = .ok (.iload_n 2, 1) := by decide +kernel
theorem dX2_traceWay_54 : decode cX2_traceWay 54 = .ok (.iadd, 1) := by decide +kernel
theorem dX2_traceWay_55 : decode cX2_traceWay 55 = .ok (.iastore, 1) := by decide +kernel
theorem dX2_traceWay_56 : decode cX2_traceWay 56 = .ok (.aload_n 0, 1) := by decide +kernel
theorem dX2_traceWay_57 : decode cX2_traceWay 57 = .ok (.iload_n 3, 1) := by decide +kernel
theorem dX2_traceWay_58 : decode cX2_traceWay 58 = .ok (.iconst 1, 1) := by decide +kernel
theorem dX2_traceWay_59 : decode cX2_traceWay 59 = .ok (.iadd, 1) := by decide +kernel
theorem dX2_traceWay_60 : decode cX2_traceWay 60 = .ok (.putfield 101, 3) := by decide +kernel
theorem dX2_traceWay_63 : decode cX2_traceWay 63 = .ok (.aload_n 0, 1) := by decide +kernel
theorem dX2_traceWay_64 : decode cX2_traceWay 64 = .ok (.iload_n 1, 1) := by decide +kernel
theorem dX2_traceWay_65 : decode cX2_traceWay 65 = .ok (.iconst 1, 1) := by decide +kernel
theorem dX2_traceWay_66 : decode cX2_traceWay 66 = .ok (.isub, 1) := by decide +kernel
theorem dX2_traceWay_67 : decode cX2_traceWay 67 = .ok (.iload_n 2, 1) := by decide +kernel
theorem dX2_traceWay_68 : decode cX2_traceWay 68 = .ok (.iconst 1, 1) := by decide +kernel
theorem dX2_traceWay_69 : decode cX2_traceWay 69 = .ok (.isub, 1) := by decide +kernel
theorem dX2_traceWay_70 : decode cX2_traceWay 70 = .ok (.invokevirtual 104, 3) := by decide +kernel
theorem dX2_traceWay_73 : decode cX2_traceWay 73 = .ok (.istore 4, 2) := by decide +kernel
theorem dX2_traceWay_75 : decode cX2_traceWay 75 = .ok (.aload_n 0, 1) := by decide +kernel
theorem dX2_traceWay_76 : decode cX2_traceWay 76 = .ok (.iload_n 1, 1) := by decide +kernel
theorem dX2_traceWay_77 : decode cX2_traceWay 77 = .ok (.iconst 1, 1) := by decide +kernel
theorem dX2_traceWay_78 : decode cX2_traceWay 78 = .ok (.isub, 1) := by decide +kernel
theorem dX2_traceWay_79 : decode cX2_traceWay 79 = .ok (.iload_n 2, 1) := by decide +kernel
theorem dX2_traceWay_80 : decode cX2_traceWay 80 = .ok (.invokevirtual 104, 3) := by decide +kernel
theorem dX2_traceWay_83 : decode cX2_traceWay 83 = .ok (.istore 5, 2) := by decide +kernel
theorem dX2_traceWay_85 : decode cX2_traceWay 85 = .ok (.aload_n 0, 1) := by decide +kernel
theorem dX2_traceWay_86 : decode cX2_traceWay 86 = .ok (.iload_n 1, 1) := by decide +kernel
theorem dX2_traceWay_87 : decode cX2_traceWay 87 = .ok (.iload_n 2, 1) := by decide +kernel
theorem dX2_traceWay_88 : decode cX2_traceWay 88 = .ok (.iconst 1, 1) := by decide +kernel
theorem dX2_traceWay_89 : decode cX2_traceWay 89 = .ok (.isub, 1) := by decide +kernel
theorem dX2_traceWay_90 : decode cX2_traceWay 90 = .ok (.invokevirtual 104, 3) := by decide +kernel
theorem dX2_traceWay_93 : decode cX2_traceWay 93 = .ok (.istore 6, 2) := by decide +kernel
theorem dX2_traceWay_95 : decode cX2_traceWay 95 = .ok (.iload 4, 2) := by decide +kernel
theorem dX2_traceWay_97 : decode cX2_traceWay 97 = .ok (.iload 5, 2) := by decide +kernel
theorem dX2_traceWay_99 : decode cX2_traceWay 99 = .ok (.if_icmp .gt 19, 3) := by decide +kernel
theorem dX2_traceWay_102 : decode cX2_traceWay 102 = .ok (.iload 4, 2) := by decide +kernel
theorem dX2_traceWay_104 : decode cX2_traceWay 104 = .ok (.iload 6, 2) := by decide +kernel
theorem dX2_traceWay_106 : decode cX2_traceWay 106 = .ok (.if_icmp .gt 12, 3) := by decide +kernel
theorem dX2_traceWay_109 : decode cX2_traceWay 109 = .ok (.iinc 1 (-1), 3) := by decide +kernel
theorem dX2_traceWay_112 : decode cX2_traceWay 112 = .ok (.iinc 2 (-1), 3) := by decide +kernel
theorem dX2_traceWay_115 : decode cX2_traceWay 115 = .ok (.goto 19, 3) := by decide +kernel
theorem dX2_traceWay_118 : decode cX2_traceWay 118 = .ok (.iload 5, 2) := by decide +kernel
theorem dX2_traceWay_120 : decode cX2_traceWay 120 = .ok (.iload 6, 2) := by decide +kernel
theorem dX2_traceWay_122 : decode cX2_traceWay 122 = .ok (.if_icmp .gt 9, 3) := by decide +kernel
theorem dX2_traceWay_125 : decode cX2_traceWay 125 = .ok (.iinc 1 (-1), 3) := by decide +kernel
theorem dX2_traceWay_128 : decode cX2_traceWay 128 = .ok (.goto 6, 3) := by decide +kernel
theorem dX2_traceWay_131 : decode cX2_traceWay 131 = .ok (.iinc 2 (-1), 3) := by decide +kernel
theorem dX2_traceWay_134 : decode cX2_traceWay 134 = .ok (.iinc 3 1, 3) := by decide +kernel
theorem dX2_traceWay_137 : decode cX2_traceWay 137 = .ok (.goto (-110), 3) := by decide +kernel
theorem dX2_traceWay_140 : decode cX2_traceWay 140 = .ok (.return_, 1) := by decide +kernel
theorem dX2_wayPlace_0 : decode cX2_wayPlace 0 = .ok (.aload_n 0, 1) := by decide +kernel
theorem dX2_wayPlace_1 : decode cX2_wayPlace 1 = .ok (.getfield 101, 3) := by decide +kernel
theorem dX2_wayPlace_4 : decode cX2_wayPlace 4 = .ok (.iconst 1, 1) := by decide +kernel
theorem dX2_wayPlace_5 : decode cX2_wayPlace 5 = .ok (.isub, 1) := by decide +kernel
theorem dX2_wayPlace_6 : decode cX2_wayPlace 6 = .ok (.iload_n 1, 1) := by decide +kernel
theorem dX2_wayPlace_7 : decode cX2_wayPlace 7 = .ok (.isub, 1) := by decide +kernel
theorem dX2_wayPlace_8 : decode cX2_wayPlace 8 = .ok (.istore_n 2, 1) := by decide +kernel
theorem dX2_wayPlace_9 : decode cX2_wayPlace 9 = .ok (.iload_n 1, 1) := by decide +kernel
theorem dX2_wayPlace_10 : decode cX2_wayPlace 10 = .ok (.ifCond .lt 25, 3) := by decide +kernel
theorem dX2_wayPlace_13 : decode cX2_wayPlace 13 = .ok (.iload_n 2, 1) := by decide +kernel
theorem dX2_wayPlace_14 : decode cX2_wayPlace 14 = .ok (.ifCond .lt 21, 3) := by decide +kernel
theorem dX2_wayPlace_17 : decode cX2_wayPlace 17 = .ok (.iload_n 2, 1) := by decide +kernel
theorem dX2_wayPlace_18 : decode cX2_wayPlace 18 = .ok (.aload_n 0, 1) := by decide +kernel
theorem dX2_wayPlace_19 : decode cX2_wayPlace 19 = .ok (.getfield 21, 3) := by decide +kernel
theorem dX2_wayPlace_22 : decode cX2_wayPlace 22 = .ok (.arraylength, 1) := by decide +kernel
theorem dX2_wayPlace_23 : decode cX2_wayPlace 23 = .ok (.if_icmp .ge 12, 3) := by decide +kernel
theorem dX2_wayPlace_26 : decode cX2_wayPlace 26 = .ok (.aload_n 0, 1) := by decide +kernel
theorem dX2_wayPlace_27 : decode cX2_wayPlace 27 = .ok (.getfield 21, 3) := by decide +kernel
theorem dX2_wayPlace_30 : decode cX2_wayPlace 30 = .ok (.iload_n 2, 1) := by decide +kernel
theorem dX2_wayPlace_31 : decode cX2_wayPlace 31 = .ok (.iaload, 1) := by decide +kernel
theorem dX2_wayPlace_32 : decode cX2_wayPlace 32 = .ok (.goto 4, 3) := by decide +kernel
theorem dX2_wayPlace_35 : decode cX2_wayPlace 35 = .ok (.iconst (-1), 1) := by decide +kernel
theorem dX2_wayPlace_36 : decode cX2_wayPlace 36 = .ok (.ireturn, 1) := by decide +kernel
set_option maxRecDepth 20000 in
theorem ggX2_widestOfWay_X2_wayPlace : GoodIn wsX2_widestOfWay wsX2_wayPlace := goodIn_r _ [13, 1, 14, 15, 16, 17, 18, 19, 20, 21, 22, 23, 24] (by decide +kernel) (by decide +kernel)
set_option maxRecDepth 20000 in
theorem gX2_widestOfWay_X2_wayPlace : GoodIn wsX2_widestOfWay (wsV RX2 107 RX2 yX2_wayPlace wsX2_wayPlace) := goodIn_app (goodIn_of _ (by decide +kernel)) ggX2_widestOfWay_X2_wayPlace
theorem dX2_widestOfWay_0 : decode cX2_widestOfWay 0 = .ok (.iconst 0, 1) := by decide +kernel
theorem dX2_widestOfWay_1 : decode cX2_widestOfWay 1 = .ok (.istore_n 1, 1) := by decide +kernel
theorem dX2_widestOfWay_2 : decode cX2_widestOfWay 2 = .ok (.iconst 0, 1) := by decide +kernel
theorem dX2_widestOfWay_3 : decode cX2_widestOfWay 3 = .ok (.istore_n 2, 1) := by decide +kernel
theorem dX2_widestOfWay_4 : decode cX2_widestOfWay 4 = .ok (.iload_n 2, 1) := by decide +kernel
theorem dX2_widestOfWay_5 : decode cX2_widestOfWay 5 = .ok (.aload_n 0, 1) := by decide +kernel
theorem dX2_widestOfWay_6 : decode cX2_widestOfWay 6 = .ok (.getfield 101, 3) := by decide +kernel
theorem dX2_widestOfWay_9 : decode cX2_widestOfWay 9 = .ok (.if_icmp .ge 32, 3) := by decide +kernel
theorem dX2_widestOfWay_12 : decode cX2_widestOfWay 12 = .ok (.aload_n 0, 1) := by decide +kernel
theorem dX2_widestOfWay_13 : decode cX2_widestOfWay 13 = .ok (.iload_n 2, 1) := by decide +kernel
theorem dX2_widestOfWay_14 : decode cX2_widestOfWay 14 = .ok (.invokevirtual 107, 3) := by decide +kernel
theorem dX2_widestOfWay_17 : decode cX2_widestOfWay 17 = .ok (.istore_n 3, 1) := by decide +kernel
theorem dX2_widestOfWay_18 : decode cX2_widestOfWay 18 = .ok (.iload_n 1, 1) := by decide +kernel
theorem dX2_widestOfWay_19 : decode cX2_widestOfWay 19 = .ok (.iload_n 3, 1) := by decide +kernel
theorem dX2_widestOfWay_20 : decode cX2_widestOfWay 20 = .ok (.bipush 100, 2) := by decide +kernel
theorem dX2_widestOfWay_22 : decode cX2_widestOfWay 22 = .ok (.idiv, 1) := by decide +kernel
theorem dX2_widestOfWay_23 : decode cX2_widestOfWay 23 = .ok (.iload_n 3, 1) := by decide +kernel
theorem dX2_widestOfWay_24 : decode cX2_widestOfWay 24 = .ok (.bipush 100, 2) := by decide +kernel
theorem dX2_widestOfWay_26 : decode cX2_widestOfWay 26 = .ok (.irem, 1) := by decide +kernel
theorem dX2_widestOfWay_27 : decode cX2_widestOfWay 27 = .ok (.isub, 1) := by decide +kernel
theorem dX2_widestOfWay_28 : decode cX2_widestOfWay 28 = .ok (.invokestatic 110, 3) := by decide +kernel
theorem dX2_widestOfWay_31 : decode cX2_widestOfWay 31 = .ok (.invokestatic 34, 3) := by decide +kernel
theorem dX2_widestOfWay_34 : decode cX2_widestOfWay 34 = .ok (.istore_n 1, 1) := by decide +kernel
theorem dX2_widestOfWay_35 : decode cX2_widestOfWay 35 = .ok (.iinc 2 1, 3) := by decide +kernel
theorem dX2_widestOfWay_38 : decode cX2_widestOfWay 38 = .ok (.goto (-34), 3) := by decide +kernel
theorem dX2_widestOfWay_41 : decode cX2_widestOfWay 41 = .ok (.iload_n 1, 1) := by decide +kernel
theorem dX2_widestOfWay_42 : decode cX2_widestOfWay 42 = .ok (.ireturn, 1) := by decide +kernel
set_option maxRecDepth 20000 in
theorem ggX2_stepsInBoth_X2_wayPlace : GoodIn wsX2_stepsInBoth wsX2_wayPlace := goodIn_r _ [6, 1, 7, 8, 9, 10, 11, 12, 13, 14, 15, 16, 17] (by decide +kernel) (by decide +kernel)
set_option maxRecDepth 20000 in
theorem gX2_stepsInBoth_X2_wayPlace : GoodIn wsX2_stepsInBoth (wsV RX2 107 RX2 yX2_wayPlace wsX2_wayPlace) := goodIn_app (goodIn_of _ (by decide +kernel)) ggX2_stepsInBoth_X2_wayPlace
theorem dX2_stepsInBoth_0 : decode cX2_stepsInBoth 0 = .ok (.iconst 0, 1) := by decide +kernel
theorem dX2_stepsInBoth_1 : decode cX2_stepsInBoth 1 = .ok (.istore_n 1, 1) := by decide +kernel
theorem dX2_stepsInBoth_2 : decode cX2_stepsInBoth 2 = .ok (.iconst 1, 1) := by decide +kernel
theorem dX2_stepsInBoth_3 : decode cX2_stepsInBoth 3 = .ok (.istore_n 2, 1) := by decide +kernel
theorem dX2_stepsInBoth_4 : decode cX2_stepsInBoth 4 = .ok (.iload_n 2, 1) := by decide +kernel
theorem dX2_stepsInBoth_5 : decode cX2_stepsInBoth 5 = .ok (.aload_n 0, 1) := by decide +kernel
theorem dX2_stepsInBoth_6 : decode cX2_stepsInBoth 6 = .ok (.getfield 101, 3) := by decide +kernel
theorem dX2_stepsInBoth_9 : decode cX2_stepsInBoth 9 = .ok (.if_icmp .ge 30, 3) := by decide +kernel
theorem dX2_stepsInBoth_12 : decode cX2_stepsInBoth 12 = .ok (.aload_n 0, 1) := by decide +kernel
theorem dX2_stepsInBoth_13 : decode cX2_stepsInBoth 13 = .ok (.iload_n 2, 1) := by decide +kernel
theorem dX2_stepsInBoth_14 : decode cX2_stepsInBoth 14 = .ok (.invokevirtual 107, 3) := by decide +kernel
theorem dX2_stepsInBoth_17 : decode cX2_stepsInBoth 17 = .ok (.aload_n 0, 1) := by decide +kernel
theorem dX2_stepsInBoth_18 : decode cX2_stepsInBoth 18 = .ok (.iload_n 2, 1) := by decide +kernel
theorem dX2_stepsInBoth_19 : decode cX2_stepsInBoth 19 = .ok (.iconst 1, 1) := by decide +kernel
theorem dX2_stepsInBoth_20 : decode cX2_stepsInBoth 20 = .ok (.isub, 1) := by decide +kernel
theorem dX2_stepsInBoth_21 : decode cX2_stepsInBoth 21 = .ok (.invokevirtual 107, 3) := by decide +kernel
theorem dX2_stepsInBoth_24 : decode cX2_stepsInBoth 24 = .ok (.isub, 1) := by decide +kernel
theorem dX2_stepsInBoth_25 : decode cX2_stepsInBoth 25 = .ok (.bipush 101, 2) := by decide +kernel
theorem dX2_stepsInBoth_27 : decode cX2_stepsInBoth 27 = .ok (.if_icmp .ne 6, 3) := by decide +kernel
theorem dX2_stepsInBoth_30 : decode cX2_stepsInBoth 30 = .ok (.iinc 1 1, 3) := by decide +kernel
theorem dX2_stepsInBoth_33 : decode cX2_stepsInBoth 33 = .ok (.iinc 2 1, 3) := by decide +kernel
theorem dX2_stepsInBoth_36 : decode cX2_stepsInBoth 36 = .ok (.goto (-32), 3) := by decide +kernel
theorem dX2_stepsInBoth_39 : decode cX2_stepsInBoth 39 = .ok (.iload_n 1, 1) := by decide +kernel
theorem dX2_stepsInBoth_40 : decode cX2_stepsInBoth 40 = .ok (.ireturn, 1) := by decide +kernel
theorem dX3_init_0 : decode cX3_init 0 = .ok (.aload_n 0, 1) := by decide +kernel
theorem dX3_init_1 : decode cX3_init 1 = .ok (.invokespecial 1, 3) := by decide +kernel
theorem dX3_init_4 : decode cX3_init 4 = .ok (.aload_n 0, 1) := by decide +kernel
theorem dX3_init_5 : decode cX3_init 5 = .ok (.bipush 40, 2) := by decide +kernel
theorem dX3_init_7 : decode cX3_init 7 = .ok (.newarray .int, 2) := by decide +kernel
theorem dX3_init_9 : decode cX3_init 9 = .ok (.putfield 9, 3) := by decide +kernel
theorem dX3_init_12 : decode cX3_init 12 = .ok (.aload_n 0, 1) := by decide +kernel
theorem dX3_init_13 : decode cX3_init 13 = .ok (.bipush 40, 2) := by decide +kernel
theorem dX3_init_15 : decode cX3_init 15 = .ok (.newarray .int, 2) := by decide +kernel
theorem dX3_init_17 : decode cX3_init 17 = .ok (.putfield 13, 3) := by decide +kernel
theorem dX3_init_20 : decode cX3_init 20 = .ok (.aload_n 0, 1) := by decide +kernel
theorem dX3_init_21 : decode cX3_init 21 = .ok (.bipush 40, 2) := by decide +kernel
theorem dX3_init_23 : decode cX3_init 23 = .ok (.newarray .int, 2) := by decide +kernel
theorem dX3_init_25 : decode cX3_init 25 = .ok (.putfield 16, 3) := by decide +kernel
theorem dX3_init_28 : decode cX3_init 28 = .ok (.return_, 1) := by decide +kernel
theorem dX3_forget_0 : decode cX3_forget 0 = .ok (.aload_n 0, 1) := by decide +kernel
theorem dX3_forget_1 : decode cX3_forget 1 = .ok (.iconst 0, 1) := by decide +kernel
theorem dX3_forget_2 : decode cX3_forget 2 = .ok (.putfield 19, 3) := by decide +kernel
theorem dX3_forget_5 : decode cX3_forget 5 = .ok (.return_, 1) := by decide +kernel
theorem dX3_note_0 : decode cX3_note 0 = .ok (.aload_n 0, 1) := by decide +kernel
theorem dX3_note_1 : decode cX3_note 1 = .ok (.getfield 23, 3) := by decide +kernel
theorem dX3_note_4 : decode cX3_note 4 = .ok (.ifCond .lt 12, 3) := by decide +kernel
theorem dX3_note_7 : decode cX3_note 7 = .ok (.aload_n 0, 1) := by decide +kernel
theorem dX3_note_8 : decode cX3_note 8 = .ok (.getfield 23, 3) := by decide +kernel
theorem dX3_note_11 : decode cX3_note 11 = .ok (.bipush 40, 2) := by decide +kernel
theorem dX3_note_13 : decode cX3_note 13 = .ok (.if_icmp .lt 4, 3) := by decide +kernel
theorem dX3_note_16 : decode cX3_note 16 = .ok (.return_, 1) := by decide +kernel
theorem dX3_note_17 : decode cX3_note 17 = .ok (.aload_n 0, 1) := by decide +kernel
theorem dX3_note_18 : decode cX3_note 18 = .ok (.getfield 9, 3) := by decide +kernel
theorem dX3_note_21 : decode cX3_note 21 = .ok (.aload_n 0, 1) := by decide +kernel
theorem dX3_note_22 : decode cX3_note 22 = .ok (.getfield 23, 3) := by decide +kernel
theorem dX3_note_25 : decode cX3_note 25 = .ok (.iload_n 1, 1) := by decide +kernel
theorem dX3_note_26 : decode cX3_note 26 = .ok (.iastore, 1) := by decide +kernel
theorem dX3_note_27 : decode cX3_note 27 = .ok (.aload_n 0, 1) := by decide +kernel
theorem dX3_note_28 : decode cX3_note 28 = .ok (.getfield 13, 3) := by decide +kernel
theorem dX3_note_31 : decode cX3_note 31 = .ok (.aload_n 0, 1) := by decide +kernel
theorem dX3_note_32 : decode cX3_note 32 = .ok (.getfield 23, 3) := by decide +kernel
theorem dX3_note_35 : decode cX3_note 35 = .ok (.iload_n 2, 1) := by decide +kernel
theorem dX3_note_36 : decode cX3_note 36 = .ok (.iastore, 1) := by decide +kernel
theorem dX3_note_37 : decode cX3_note 37 = .ok (.aload_n 0, 1) := by decide +kernel
theorem dX3_note_38 : decode cX3_note 38 = .ok (.getfield 16, 3) := by decide +kernel
theorem dX3_note_41 : decode cX3_note 41 = .ok (.aload_n 0, 1) := by decide +kernel
theorem dX3_note_42 : decode cX3_note 42 = .ok (.getfield 23, 3) := by decide +kernel
theorem dX3_note_45 : decode cX3_note 45 = .ok (.iload_n 3, 1) := by decide +kernel
theorem dX3_note_46 : decode cX3_note 46 = .ok (.iastore, 1) := by decide +kernel
theorem dX3_note_47 : decode cX3_note 47 = .ok (.aload_n 0, 1) := by decide +kernel
theorem dX3_note_48 : decode cX3_note 48 = .ok (.aload_n 0, 1) := by decide +kernel
theorem dX3_note_49 : decode cX3_note 49 = .ok (.getfield 23, 3) := by decide +kernel
theorem dX3_note_52 : decode cX3_note 52 = .ok (.bipush 39, 2) := by decide +kernel
theorem dX3_note_54 : decode cX3_note 54 = .ok (.if_icmp .ne 7, 3) := by decide +kernel
theorem dX3_note_57 : decode cX3_note 57 = .ok (.iconst 0, 1) := by decide +kernel
theorem dX3_note_58 : decode cX3_note 58 = .ok (.goto 9, 3) := by decide +kernel
theorem dX3_note_61 : decode cX3_note 61 = .ok (.aload_n 0, 1) := by decide +kernel
theorem dX3_note_62 : decode cX3_note 62 = .ok (.getfield 23, 3) := by decide +kernel
theorem dX3_note_65 : decode cX3_note 65 = .ok (.iconst 1, 1) := by decide +kernel
theorem dX3_note_66 : decode cX3_note 66 = .ok (.iadd, 1) := by decide +kernel
theorem dX3_note_67 : decode cX3_note 67 = .ok (.putfield 23, 3) := by decide +kernel
theorem dX3_note_70 : decode cX3_note 70 = .ok (.aload_n 0, 1) := by decide +kernel
theorem dX3_note_71 : decode cX3_note 71 = .ok (.aload_n 0, 1) := by decide +kernel
theorem dX3_note_72 : decode cX3_note 72 = .ok (.getfield 19, 3) := by decide +kernel
theorem dX3_note_75 : decode cX3_note 75 = .ok (.iconst 1, 1) := by decide +kernel
theorem dX3_note_76 : decode cX3_note 76 = .ok (.iadd, 1) := by decide +kernel
theorem dX3_note_77 : decode cX3_note 77 = .ok (.bipush 40, 2) := by decide +kernel
theorem dX3_note_79 : decode cX3_note 79 = .ok (.invokestatic 26, 3) := by decide +kernel
theorem dX3_note_82 : decode cX3_note 82 = .ok (.putfield 19, 3) := by decide +kernel
theorem dX3_note_85 : decode cX3_note 85 = .ok (.return_, 1) := by decide +kernel
theorem dX3_stepBack_0 : decode cX3_stepBack 0 = .ok (.aload_n 0, 1) := by decide +kernel
theorem dX3_stepBack_1 : decode cX3_stepBack 1 = .ok (.getfield 19, 3) := by decide +kernel
theorem dX3_stepBack_4 : decode cX3_stepBack 4 = .ok (.iconst 1, 1) := by decide +kernel
theorem dX3_stepBack_5 : decode cX3_stepBack 5 = .ok (.if_icmp .ge 5, 3) := by decide +kernel
theorem dX3_stepBack_8 : decode cX3_stepBack 8 = .ok (.iconst 0, 1) := by decide +kernel
theorem dX3_stepBack_9 : decode cX3_stepBack 9 = .ok (.ireturn, 1) := by decide +kernel
theorem dX3_stepBack_10 : decode cX3_stepBack 10 = .ok (.aload_n 0, 1) := by decide +kernel
theorem dX3_stepBack_11 : decode cX3_stepBack 11 = .ok (.aload_n 0, 1) := by decide +kernel
theorem dX3_stepBack_12 : decode cX3_stepBack 12 = .ok (.getfield 23, 3) := by decide +kernel
theorem dX3_stepBack_15 : decode cX3_stepBack 15 = .ok (.ifCond .ne 8, 3) := by decide +kernel
theorem dX3_stepBack_18 : decode cX3_stepBack 18 = .ok (.bipush 39, 2) := by decide +kernel
theorem dX3_stepBack_20 : decode cX3_stepBack 20 = .ok (.goto 9, 3) := by decide +kernel
theorem dX3_stepBack_23 : decode cX3_stepBack 23 = .ok (.aload_n 0, 1) := by decide +kernel
theorem dX3_stepBack_24 : decode cX3_stepBack 24 = .ok (.getfield 23, 3) := by decide +kernel
theorem dX3_stepBack_27 : decode cX3_stepBack 27 = .ok (.iconst 1, 1) := by decide +kernel
theorem dX3_stepBack_28 : decode cX3_stepBack 28 = .ok (.isub, 1) := by decide +kernel
theorem dX3_stepBack_29 : decode cX3_stepBack 29 = .ok (.putfield 23, 3) := by decide +kernel
theorem dX3_stepBack_32 : decode cX3_stepBack 32 = .ok (.aload_n 0, 1) := by decide +kernel
theorem dX3_stepBack_33 : decode cX3_stepBack 33 = .ok (.dup, 1) := by decide +kernel
theorem dX3_stepBack_34 : decode cX3_stepBack 34 = .ok (.getfield 19, 3) := by decide +kernel
theorem dX3_stepBack_37 : decode cX3_stepBack 37 = .ok (.iconst 1, 1) := by decide +kernel
theorem dX3_stepBack_38 : decode cX3_stepBack 38 = .ok (.isub, 1) := by decide +kernel
theorem dX3_stepBack_39 : decode cX3_stepBack 39 = .ok (.putfield 19, 3) := by decide +kernel
theorem dX3_stepBack_42 : decode cX3_stepBack 42 = .ok (.iconst 1, 1) := by decide +kernel
theorem dX3_stepBack_43 : decode cX3_stepBack 43 = .ok (.ireturn, 1) := by decide +kernel
theorem dX3_valueIn_0 : decode cX3_valueIn 0 = .ok (.iload_n 1, 1) := by decide +kernel
theorem dX3_valueIn_1 : decode cX3_valueIn 1 = .ok (.ifCond .lt 15, 3) := by decide +kernel
theorem dX3_valueIn_4 : decode cX3_valueIn 4 = .ok (.iload_n 1, 1) := by decide +kernel
theorem dX3_valueIn_5 : decode cX3_valueIn 5 = .ok (.aload_n 0, 1) := by decide +kernel
theorem dX3_valueIn_6 : decode cX3_valueIn 6 = .ok (.arraylength, 1) := by decide +kernel
theorem dX3_valueIn_7 : decode cX3_valueIn 7 = .ok (.if_icmp .ge 9, 3) := by decide +kernel
theorem dX3_valueIn_10 : decode cX3_valueIn 10 = .ok (.aload_n 0, 1) := by decide +kernel
theorem dX3_valueIn_11 : decode cX3_valueIn 11 = .ok (.iload_n 1, 1) := by decide +kernel
theorem dX3_valueIn_12 : decode cX3_valueIn 12 = .ok (.iaload, 1) := by decide +kernel
theorem dX3_valueIn_13 : decode cX3_valueIn 13 = .ok (.goto 4, 3) := by decide +kernel
theorem dX3_valueIn_16 : decode cX3_valueIn 16 = .ok (.iconst 0, 1) := by decide +kernel
theorem dX3_valueIn_17 : decode cX3_valueIn 17 = .ok (.ireturn, 1) := by decide +kernel
set_option maxRecDepth 20000 in
theorem ggX3_kindOfStep_X3_valueIn : GoodIn wsX3_kindOfStep wsX3_valueIn := goodIn_r _ [6] (by decide +kernel) (by decide +kernel)
set_option maxRecDepth 20000 in
theorem gX3_kindOfStep_X3_valueIn : GoodIn wsX3_kindOfStep (va_wsS RX3 32 yX3_valueIn wsX3_valueIn) := goodIn_app (goodIn_of _ (by decide +kernel)) ggX3_kindOfStep_X3_valueIn
theorem dX3_kindOfStep_0 : decode cX3_kindOfStep 0 = .ok (.aload_n 0, 1) := by decide +kernel
theorem dX3_kindOfStep_1 : decode cX3_kindOfStep 1 = .ok (.getfield 9, 3) := by decide +kernel
theorem dX3_kindOfStep_4 : decode cX3_kindOfStep 4 = .ok (.aload_n 0, 1) := by decide +kernel
theorem dX3_kindOfStep_5 : decode cX3_kindOfStep 5 = .ok (.getfield 23, 3) := by decide +kernel
theorem dX3_kindOfStep_8 : decode cX3_kindOfStep 8 = .ok (.invokestatic 32, 3) := by decide +kernel
theorem dX3_kindOfStep_11 : decode cX3_kindOfStep 11 = .ok (.ireturn, 1) := by decide +kernel
set_option maxRecDepth 20000 in
theorem ggX3_firstOfStep_X3_valueIn : GoodIn wsX3_firstOfStep wsX3_valueIn := goodIn_r _ [6] (by decide +kernel) (by decide +kernel)
set_option maxRecDepth 20000 in
theorem gX3_firstOfStep_X3_valueIn : GoodIn wsX3_firstOfStep (va_wsS RX3 32 yX3_valueIn wsX3_valueIn) := goodIn_app (goodIn_of _ (by decide +kernel)) ggX3_firstOfStep_X3_valueIn
theorem dX3_firstOfStep_0 : decode cX3_firstOfStep 0 = .ok (.aload_n 0, 1) := by decide +kernel
theorem dX3_firstOfStep_1 : decode cX3_firstOfStep 1 = .ok (.getfield 13, 3) := by decide +kernel
theorem dX3_firstOfStep_4 : decode cX3_firstOfStep 4 = .ok (.aload_n 0, 1) := by decide +kernel
theorem dX3_firstOfStep_5 : decode cX3_firstOfStep 5 = .ok (.getfield 23, 3) := by decide +kernel
theorem dX3_firstOfStep_8 : decode cX3_firstOfStep 8 = .ok (.invokestatic 32, 3) := by decide +kernel
theorem dX3_firstOfStep_11 : decode cX3_firstOfStep 11 = .ok (.ireturn, 1) := by decide +kernel
set_option maxRecDepth 20000 in
theorem ggX3_secondOfStep_X3_valueIn : GoodIn wsX3_secondOfStep wsX3_valueIn := goodIn_r _ [6] (by decide +kernel) (by decide +kernel)
set_option maxRecDepth 20000 in
theorem gX3_secondOfStep_X3_valueIn : GoodIn wsX3_secondOfStep (va_wsS RX3 32 yX3_valueIn wsX3_valueIn) := goodIn_app (goodIn_of _ (by decide +kernel)) ggX3_secondOfStep_X3_valueIn
theorem dX3_secondOfStep_0 : decode cX3_secondOfStep 0 = .ok (.aload_n 0, 1) := by decide +kernel
theorem dX3_secondOfStep_1 : decode cX3_secondOfStep 1 = .ok (.getfield 16, 3) := by decide +kernel
theorem dX3_secondOfStep_4 : decode cX3_secondOfStep 4 = .ok (.aload_n 0, 1) := by decide +kernel
theorem dX3_secondOfStep_5 : decode cX3_secondOfStep 5 = .ok (.getfield 23, 3) := by decide +kernel
theorem dX3_secondOfStep_8 : decode cX3_secondOfStep 8 = .ok (.invokestatic 32, 3) := by decide +kernel
theorem dX3_secondOfStep_11 : decode cX3_secondOfStep 11 = .ok (.ireturn, 1) := by decide +kernel
theorem dX4_init_0 : decode cX4_init 0 = .ok (.aload_n 0, 1) := by decide +kernel
theorem dX4_init_1 : decode cX4_init 1 = .ok (.invokespecial 3, 3) := by decide +kernel
theorem dX4_init_4 : decode cX4_init 4 = .ok (.aload_n 0, 1) := by decide +kernel
theorem dX4_init_5 : decode cX4_init 5 = .ok (.bipush 80, 2) := by decide +kernel
theorem dX4_init_7 : decode cX4_init 7 = .ok (.newarray .int, 2) := by decide +kernel
theorem dX4_init_9 : decode cX4_init 9 = .ok (.putfield 9, 3) := by decide +kernel
theorem dX4_init_12 : decode cX4_init 12 = .ok (.aload_n 0, 1) := by decide +kernel
theorem dX4_init_13 : decode cX4_init 13 = .ok (.iconst 5, 1) := by decide +kernel
theorem dX4_init_14 : decode cX4_init 14 = .ok (.newarray .int, 2) := by decide +kernel
theorem dX4_init_16 : decode cX4_init 16 = .ok (.putfield 15, 3) := by decide +kernel
theorem dX4_init_19 : decode cX4_init 19 = .ok (.return_, 1) := by decide +kernel
theorem dX4_has_0 : decode cX4_has 0 = .ok (.iload_n 1, 1) := by decide +kernel
theorem dX4_has_1 : decode cX4_has 1 = .ok (.ifCond .lt 20, 3) := by decide +kernel
theorem dX4_has_4 : decode cX4_has 4 = .ok (.iload_n 1, 1) := by decide +kernel
theorem dX4_has_5 : decode cX4_has 5 = .ok (.aload_n 0, 1) := by decide +kernel
theorem dX4_has_6 : decode cX4_has 6 = .ok (.getfield 18, 3) := by decide +kernel
theorem dX4_has_9 : decode cX4_has 9 = .ok (.if_icmp .ge 12, 3) := by decide +kernel
theorem dX4_has_12 : decode cX4_has 12 = .ok (.iload_n 1, 1) := by decide +kernel
theorem dX4_has_13 : decode cX4_has 13 = .ok (.iconst 5, 1) := by decide +kernel
theorem dX4_has_14 : decode cX4_has 14 = .ok (.if_icmp .ge 7, 3) := by decide +kernel
theorem dX4_has_17 : decode cX4_has 17 = .ok (.iconst 1, 1) := by decide +kernel
theorem dX4_has_18 : decode cX4_has 18 = .ok (.goto 4, 3) := by decide +kernel
theorem dX4_has_21 : decode cX4_has 21 = .ok (.iconst 0, 1) := by decide +kernel
theorem dX4_has_22 : decode cX4_has 22 = .ok (.ireturn, 1) := by decide +kernel
set_option maxRecDepth 20000 in
theorem ggX4_lengthOf_X4_has : GoodIn wsX4_lengthOf wsX4_has := goodIn_r _ [6, 7, 8, 9, 10] (by decide +kernel) (by decide +kernel)
set_option maxRecDepth 20000 in
theorem gX4_lengthOf_X4_has : GoodIn wsX4_lengthOf (wsV RX4 22 RX4 yX4_has wsX4_has) := goodIn_app (goodIn_of _ (by decide +kernel)) ggX4_lengthOf_X4_has
theorem dX4_lengthOf_0 : decode cX4_lengthOf 0 = .ok (.aload_n 0, 1) := by decide +kernel
theorem dX4_lengthOf_1 : decode cX4_lengthOf 1 = .ok (.iload_n 1, 1) := by decide +kernel
theorem dX4_lengthOf_2 : decode cX4_lengthOf 2 = .ok (.invokevirtual 22, 3) := by decide +kernel
theorem dX4_lengthOf_5 : decode cX4_lengthOf 5 = .ok (.ifCond .eq 12, 3) := by decide +kernel
theorem dX4_lengthOf_8 : decode cX4_lengthOf 8 = .ok (.aload_n 0, 1) := by decide +kernel
theorem dX4_lengthOf_9 : decode cX4_lengthOf 9 = .ok (.getfield 15, 3) := by decide +kernel
theorem dX4_lengthOf_12 : decode cX4_lengthOf 12 = .ok (.iload_n 1, 1) := by decide +kernel
theorem dX4_lengthOf_13 : decode cX4_lengthOf 13 = .ok (.iaload, 1) := by decide +kernel
theorem dX4_lengthOf_14 : decode cX4_lengthOf 14 = .ok (.goto 4, 3) := by decide +kernel
theorem dX4_lengthOf_17 : decode cX4_lengthOf 17 = .ok (.iconst 0, 1) := by decide +kernel
theorem dX4_lengthOf_18 : decode cX4_lengthOf 18 = .ok (.ireturn, 1) := by decide +kernel
set_option maxRecDepth 20000 in
theorem ggX4_valueAt_X4_lengthOf : GoodIn wsX4_valueAt wsX4_lengthOf := goodIn_r _ [6, 7, 8, 9, 10, 5, 11, 12, 13, 14, 15] (by decide +kernel) (by decide +kernel)
set_option maxRecDepth 20000 in
theorem gX4_valueAt_X4_lengthOf : GoodIn wsX4_valueAt (wsV RX4 26 RX4 yX4_lengthOf wsX4_lengthOf) := goodIn_app (goodIn_of _ (by decide +kernel)) ggX4_valueAt_X4_lengthOf
theorem dX4_valueAt_0 : decode cX4_valueAt 0 = .ok (.iload_n 2, 1) := by decide +kernel
theorem dX4_valueAt_1 : decode cX4_valueAt 1 = .ok (.ifCond .lt 32, 3) := by decide +kernel
theorem dX4_valueAt_4 : decode cX4_valueAt 4 = .ok (.iload_n 2, 1) := by decide +kernel
theorem dX4_valueAt_5 : decode cX4_valueAt 5 = .ok (.bipush 16, 2) := by decide +kernel
theorem dX4_valueAt_7 : decode cX4_valueAt 7 = .ok (.if_icmp .ge 26, 3) := by decide +kernel
theorem dX4_valueAt_10 : decode cX4_valueAt 10 = .ok (.iload_n 2, 1) := by decide +kernel
theorem dX4_valueAt_11 : decode cX4_valueAt 11 = .ok (.aload_n 0, 1) := by decide +kernel
theorem dX4_valueAt_12 : decode cX4_valueAt 12 = .ok (.iload_n 1, 1) := by decide +kernel
theorem dX4_valueAt_13 : decode cX4_valueAt 13 = .ok (.invokevirtual 26, 3) := by decide +kernel
theorem dX4_valueAt_16 : decode cX4_valueAt 16 = .ok (.if_icmp .ge 17, 3) := by decide +kernel
theorem dX4_valueAt_19 : decode cX4_valueAt 19 = .ok (.aload_n 0, 1) := by decide +kernel
theorem dX4_valueAt_20 : decode cX4_valueAt 20 = .ok (.getfield 9, 3) := by decide +kernel
theorem dX4_valueAt_23 : decode cX4_valueAt 23 = .ok (.iload_n 1, 1) := by decide +kernel
theorem dX4_valueAt_24 : decode cX4_valueAt 24 = .ok (.bipush 16, 2) := by decide +kernel
theorem dX4_valueAt_26 : decode cX4_valueAt 26 = .ok (.imul, 1) := by decide +kernel
theorem dX4_valueAt_27 : decode cX4_valueAt 27 = .ok (.iload_n 2, 1) := by decide +kernel
theorem dX4_valueAt_28 : decode cX4_valueAt 28 = .ok (.iadd, 1) := by decide +kernel
theorem dX4_valueAt_29 : decode cX4_valueAt 29 = .ok (.iaload, 1) := by decide +kernel
theorem dX4_valueAt_30 : decode cX4_valueAt 30 = .ok (.goto 6, 3) := by decide +kernel
theorem dX4_valueAt_33 : decode cX4_valueAt 33 = .ok (.sipush (-1000), 3) := by decide +kernel
theorem dX4_valueAt_36 : decode cX4_valueAt 36 = .ok (.ireturn, 1) := by decide +kernel
theorem dX4_open_0 : decode cX4_open 0 = .ok (.aload_n 0, 1) := by decide +kernel
theorem dX4_open_1 : decode cX4_open 1 = .ok (.getfield 18, 3) := by decide +kernel
theorem dX4_open_4 : decode cX4_open 4 = .ok (.ifCond .lt 31, 3) := by decide +kernel
theorem dX4_open_7 : decode cX4_open 7 = .ok (.aload_n 0, 1) := by decide +kernel
theorem dX4_open_8 : decode cX4_open 8 = .ok (.getfield 18, 3) := by decide +kernel
theorem dX4_open_11 : decode cX4_open 11 = .ok (.iconst 5, 1) := by decide +kernel
theorem dX4_open_12 : decode cX4_open 12 = .ok (.if_icmp .ge 23, 3) := by decide +kernel
theorem dX4_open_15 : decode cX4_open 15 = .ok (.aload_n 0, 1) := by decide +kernel
theorem dX4_open_16 : decode cX4_open 16 = .ok (.getfield 15, 3) := by decide +kernel
theorem dX4_open_19 : decode cX4_open 19 = .ok (.aload_n 0, 1) := by decide +kernel
theorem dX4_open_20 : decode cX4_open 20 = .ok (.getfield 18, 3) := by decide +kernel
theorem dX4_open_23 : decode cX4_open 23 = .ok (.iconst 0, 1) := by decide +kernel
theorem dX4_open_24 : decode cX4_open 24 = .ok (.iastore, 1) := by decide +kernel
theorem dX4_open_25 : decode cX4_open 25 = .ok (.aload_n 0, 1) := by decide +kernel
theorem dX4_open_26 : decode cX4_open 26 = .ok (.dup, 1) := by decide +kernel
theorem dX4_open_27 : decode cX4_open 27 = .ok (.getfield 18, 3) := by decide +kernel
theorem dX4_open_30 : decode cX4_open 30 = .ok (.iconst 1, 1) := by decide +kernel
theorem dX4_open_31 : decode cX4_open 31 = .ok (.iadd, 1) := by decide +kernel
theorem dX4_open_32 : decode cX4_open 32 = .ok (.putfield 18, 3) := by decide +kernel
theorem dX4_open_35 : decode cX4_open 35 = .ok (.return_, 1) := by decide +kernel
set_option maxRecDepth 20000 in
theorem ggX4_append_X4_has : GoodIn wsX4_append wsX4_has := goodIn_r _ [8, 1, 9, 10, 11] (by decide +kernel) (by decide +kernel)
set_option maxRecDepth 20000 in
theorem gX4_append_X4_has : GoodIn wsX4_append (wsV RX4 22 RX4 yX4_has wsX4_has) := goodIn_app (goodIn_of _ (by decide +kernel)) ggX4_append_X4_has
theorem dX4_append_0 : decode cX4_append 0 = .ok (.aload_n 0, 1) := by decide +kernel
theorem dX4_append_1 : decode cX4_append 1 = .ok (.getfield 18, 3) := by decide +kernel
theorem dX4_append_4 : decode cX4_append 4 = .ok (.iconst 1, 1) := by decide +kernel
theorem dX4_append_5 : decode cX4_append 5 = .ok (.isub, 1) := by decide +kernel
theorem dX4_append_6 : decode cX4_append 6 = .ok (.istore_n 2, 1) := by decide +kernel
theorem dX4_append_7 : decode cX4_append 7 = .ok (.aload_n 0, 1) := by decide +kernel
theorem dX4_append_8 : decode cX4_append 8 = .ok (.iload_n 2, 1) := by decide +kernel
theorem dX4_append_9 : decode cX4_append 9 = .ok (.invokevirtual 22, 3) := by decide +kernel
theorem dX4_append_12 : decode cX4_append 12 = .ok (.ifCond .eq 41, 3) := by decide +kernel
theorem dX4_append_15 : decode cX4_append 15 = .ok (.aload_n 0, 1) := by decide +kernel
theorem dX4_append_16 : decode cX4_append 16 = .ok (.getfield 15, 3) := by decide +kernel
theorem dX4_append_19 : decode cX4_append 19 = .ok (.iload_n 2, 1) := by decide +kernel
theorem dX4_append_20 : decode cX4_append 20 = .ok (.iaload, 1) := by decide +kernel
theorem dX4_append_21 : decode cX4_append 21 = .ok (.bipush 16, 2) := by decide +kernel
theorem dX4_append_23 : decode cX4_append 23 = .ok (.if_icmp .ge 30, 3) := by decide +kernel
theorem dX4_append_26 : decode cX4_append 26 = .ok (.aload_n 0, 1) := by decide +kernel
theorem dX4_append_27 : decode cX4_append 27 = .ok (.getfield 9, 3) := by decide +kernel
theorem dX4_append_30 : decode cX4_append 30 = .ok (.iload_n 2, 1) := by decide +kernel
theorem dX4_append_31 : decode cX4_append 31 = .ok (.bipush 16, 2) := by decide +kernel
theorem dX4_append_33 : decode cX4_append 33 = .ok (.imul, 1) := by decide +kernel
theorem dX4_append_34 : decode cX4_append 34 = .ok (.aload_n 0, 1) := by decide +kernel
theorem dX4_append_35 : decode cX4_append 35 = .ok (.getfield 15, 3) := by decide +kernel
theorem dX4_append_38 : decode cX4_append 38 = .ok (.iload_n 2, 1) := by decide +kernel
theorem dX4_append_39 : decode cX4_append 39 = .ok (.iaload, 1) := by decide +kernel
theorem dX4_append_40 : decode cX4_append 40 = .ok (.iadd, 1) := by decide +kernel
theorem dX4_append_41 : decode cX4_append 41 = .ok (.iload_n 1, 1) := by decide +kernel
theorem dX4_append_42 : decode cX4_append 42 = .ok (.iastore, 1) := by decide +kernel
theorem dX4_append_43 : decode cX4_append 43 = .ok (.aload_n 0, 1) := by decide +kernel
theorem dX4_append_44 : decode cX4_append 44 = .ok (.getfield 15, 3) := by decide +kernel
theorem dX4_append_47 : decode cX4_append 47 = .ok (.iload_n 2, 1) := by decide +kernel
theorem dX4_append_48 : decode cX4_append 48 = .ok (.dup2, 1) := by decide +kernel
theorem dX4_append_49 : decode cX4_append 49 = .ok (.iaload, 1) := by decide +kernel
theorem dX4_append_50 : decode cX4_append 50 = .ok (.iconst 1, 1) := by decide +kernel
theorem dX4_append_51 : decode cX4_append 51 = .ok (.iadd, 1) := by decide +kernel
theorem dX4_append_52 : decode cX4_append 52 = .ok (.iastore, 1) := by decide +kernel
theorem dX4_append_53 : decode cX4_append 53 = .ok (.return_, 1) := by decide +kernel
set_option maxRecDepth 20000 in
theorem ggX4_takeFrom_X4_open : GoodIn wsX4_takeFrom wsX4_open := goodIn_r _ [6, 1, 7, 25, 26, 27] (by decide +kernel) (by decide +kernel)
set_option maxRecDepth 20000 in
theorem gX4_takeFrom_X4_open : GoodIn wsX4_takeFrom (wsV RX4 30 RX4 yX4_open wsX4_open) := goodIn_app (goodIn_of _ (by decide +kernel)) ggX4_takeFrom_X4_open
set_option maxRecDepth 20000 in
theorem ggX4_takeFrom_X4_lengthOf : GoodIn wsX4_takeFrom wsX4_lengthOf := goodIn_r _ [11, 7, 12, 13, 14, 5, 15, 1, 25, 26, 27] (by decide +kernel) (by decide +kernel)
set_option maxRecDepth 20000 in
theorem gX4_takeFrom_X4_lengthOf : GoodIn wsX4_takeFrom (wsV RX4 26 RX4 yX4_lengthOf wsX4_lengthOf) := goodIn_app (goodIn_of _ (by decide +kernel)) ggX4_takeFrom_X4_lengthOf
set_option maxRecDepth 20000 in
theorem ggX4_takeFrom_X4_valueAt : GoodIn wsX4_takeFrom wsX4_valueAt := goodIn_r _ [19, 20, 8, 9, 10, 5, 11, 7, 12, 13, 14, 15, 1, 25, 26, 27] (by decide +kernel) (by decide +kernel)
set_option maxRecDepth 20000 in
theorem gX4_takeFrom_X4_valueAt : GoodIn wsX4_takeFrom (wsV RX4 33 RX4 yX4_valueAt wsX4_valueAt) := goodIn_app (goodIn_of _ (by decide +kernel)) ggX4_takeFrom_X4_valueAt
set_option maxRecDepth 20000 in
theorem ggX4_takeFrom_X4_append : GoodIn wsX4_takeFrom wsX4_append := goodIn_r _ [24, 1, 7, 20, 12, 13, 14, 5, 15, 25, 26, 27] (by decide +kernel) (by decide +kernel)
set_option maxRecDepth 20000 in
theorem gX4_takeFrom_X4_append : GoodIn wsX4_takeFrom (wsV RX4 37 RX4 yX4_append wsX4_append) := goodIn_app (goodIn_of _ (by decide +kernel)) ggX4_takeFrom_X4_append
theorem dX4_takeFrom_0 : decode cX4_takeFrom 0 = .ok (.aload_n 0, 1) := by decide +kernel
theorem dX4_takeFrom_1 : decode cX4_takeFrom 1 = .ok (.iconst 0, 1) := by decide +kernel
theorem dX4_takeFrom_2 : decode cX4_takeFrom 2 = .ok (.putfield 18, 3) := by decide +kernel
theorem dX4_takeFrom_5 : decode cX4_takeFrom 5 = .ok (.iconst 0, 1) := by decide +kernel
theorem dX4_takeFrom_6 : decode cX4_takeFrom 6 = .ok (.istore_n 2, 1) := by decide +kernel
theorem dX4_takeFrom_7 : decode cX4_takeFrom 7 = .ok (.iload_n 2, 1) := by decide +kernel
theorem dX4_takeFrom_8 : decode cX4_takeFrom 8 = .ok (.aload_n 1, 1) := by decide +kernel
theorem dX4_takeFrom_9 : decode cX4_takeFrom 9 = .ok (.getfield 18, 3) := by decide +kernel
theorem dX4_takeFrom_12 : decode cX4_takeFrom 12 = .ok (.if_icmp .ge 40, 3) := by decide +kernel
theorem dX4_takeFrom_15 : decode cX4_takeFrom 15 = .ok (.aload_n 0, 1) := by decide +kernel
theorem dX4_takeFrom_16 : decode cX4_takeFrom 16 = .ok (.invokevirtual 30, 3) := by decide +kernel
theorem dX4_takeFrom_19 : decode cX4_takeFrom 19 = .ok (.iconst 0, 1) := by decide +kernel
theorem dX4_takeFrom_20 : decode cX4_takeFrom 20 = .ok (.istore_n 3, 1) := by decide +kernel
theorem dX4_takeFrom_21 : decode cX4_takeFrom 21 = .ok (.iload_n 3, 1) := by decide +kernel
theorem dX4_takeFrom_22 : decode cX4_takeFrom 22 = .ok (.aload_n 1, 1) := by decide +kernel
theorem dX4_takeFrom_23 : decode cX4_takeFrom 23 = .ok (.iload_n 2, 1) := by decide +kernel
theorem dX4_takeFrom_24 : decode cX4_takeFrom 24 = .ok (.invokevirtual 26, 3) := by decide +kernel
theorem dX4_takeFrom_27 : decode cX4_takeFrom 27 = .ok (.if_icmp .ge 19, 3) := by decide +kernel
theorem dX4_takeFrom_30 : decode cX4_takeFrom 30 = .ok (.aload_n 0, 1) := by decide +kernel
theorem dX4_takeFrom_31 : decode cX4_takeFrom 31 = .ok (.aload_n 1, 1) := by decide +kernel
theorem dX4_takeFrom_32 : decode cX4_takeFrom 32 = .ok (.iload_n 2, 1) := by decide +kernel
theorem dX4_takeFrom_33 : decode cX4_takeFrom 33 = .ok (.iload_n 3, 1) := by decide +kernel
theorem dX4_takeFrom_34 : decode cX4_takeFrom 34 = .ok (.invokevirtual 33, 3) := by decide +kernel
theorem dX4_takeFrom_37 : decode cX4_takeFrom 37 = .ok (.invokevirtual 37, 3) := by decide +kernel
theorem dX4_takeFrom_40 : decode cX4_takeFrom 40 = .ok (.iinc 3 1, 3) := by decide +kernel
theorem dX4_takeFrom_43 : decode cX4_takeFrom 43 = .ok (.goto (-22), 3) := by decide +kernel
theorem dX4_takeFrom_46 : decode cX4_takeFrom 46 = .ok (.iinc 2 1, 3) := by decide +kernel
theorem dX4_takeFrom_49 : decode cX4_takeFrom 49 = .ok (.goto (-42), 3) := by decide +kernel
theorem dX4_takeFrom_52 : decode cX4_takeFrom 52 = .ok (.return_, 1) := by decide +kernel
set_option maxRecDepth 20000 in
theorem ggX4_copyQuery_X4_lengthOf : GoodIn wsX4_copyQuery wsX4_lengthOf := goodIn_r _ [5, 6, 7, 8, 9, 4, 10, 11, 17, 18, 19] (by decide +kernel) (by decide +kernel)
set_option maxRecDepth 20000 in
theorem gX4_copyQuery_X4_lengthOf : GoodIn wsX4_copyQuery (wsV RX4 26 RX4 yX4_lengthOf wsX4_lengthOf) := goodIn_app (goodIn_of _ (by decide +kernel)) ggX4_copyQuery_X4_lengthOf
set_option maxRecDepth 20000 in
theorem ggX4_copyQuery_X4_valueAt : GoodIn wsX4_copyQuery wsX4_valueAt := goodIn_r _ [15, 16, 1, 2, 3, 4, 5, 6, 7, 8, 9, 10, 11, 17, 18, 19] (by decide +kernel) (by decide +kernel)
set_option maxRecDepth 20000 in
theorem gX4_copyQuery_X4_valueAt : GoodIn wsX4_copyQuery (wsV RX4 33 RX4 yX4_valueAt wsX4_valueAt) := goodIn_app (goodIn_of _ (by decide +kernel)) ggX4_copyQuery_X4_valueAt
theorem dX4_copyQuery_0 : decode cX4_copyQuery 0 = .ok (.iconst 0, 1) := by decide +kernel
theorem dX4_copyQuery_1 : decode cX4_copyQuery 1 = .ok (.istore_n 3, 1) := by decide +kernel
theorem dX4_copyQuery_2 : decode cX4_copyQuery 2 = .ok (.iload_n 3, 1) := by decide +kernel
theorem dX4_copyQuery_3 : decode cX4_copyQuery 3 = .ok (.aload_n 0, 1) := by decide +kernel
theorem dX4_copyQuery_4 : decode cX4_copyQuery 4 = .ok (.iload_n 1, 1) := by decide +kernel
theorem dX4_copyQuery_5 : decode cX4_copyQuery 5 = .ok (.invokevirtual 26, 3) := by decide +kernel
theorem dX4_copyQuery_8 : decode cX4_copyQuery 8 = .ok (.if_icmp .ge 24, 3) := by decide +kernel
theorem dX4_copyQuery_11 : decode cX4_copyQuery 11 = .ok (.iload_n 3, 1) := by decide +kernel
theorem dX4_copyQuery_12 : decode cX4_copyQuery 12 = .ok (.aload_n 2, 1) := by decide +kernel
theorem dX4_copyQuery_13 : decode cX4_copyQuery 13 = .ok (.arraylength, 1) := by decide +kernel
theorem dX4_copyQuery_14 : decode cX4_copyQuery 14 = .ok (.if_icmp .ge 18, 3) := by decide +kernel
theorem dX4_copyQuery_17 : decode cX4_copyQuery 17 = .ok (.aload_n 2, 1) := by decide +kernel
theorem dX4_copyQuery_18 : decode cX4_copyQuery 18 = .ok (.iload_n 3, 1) := by decide +kernel
theorem dX4_copyQuery_19 : decode cX4_copyQuery 19 = .ok (.aload_n 0, 1) := by decide +kernel
theorem dX4_copyQuery_20 : decode cX4_copyQuery 20 = .ok (.iload_n 1, 1) := by decide +kernel
theorem dX4_copyQuery_21 : decode cX4_copyQuery 21 = .ok (.iload_n 3, 1) := by decide +kernel
theorem dX4_copyQuery_22 : decode cX4_copyQuery 22 = .ok (.invokevirtual 33, 3) := by decide +kernel
theorem dX4_copyQuery_25 : decode cX4_copyQuery 25 = .ok (.iastore, 1) := by decide +kernel
theorem dX4_copyQuery_26 : decode cX4_copyQuery 26 = .ok (.iinc 3 1, 3) := by decide +kernel
theorem dX4_copyQuery_29 : decode cX4_copyQuery 29 = .ok (.goto (-27), 3) := by decide +kernel
theorem dX4_copyQuery_32 : decode cX4_copyQuery 32 = .ok (.return_, 1) := by decide +kernel
set_option maxRecDepth 20000 in
theorem ggX5_init_X8_init : GoodIn wsX5_init wsX8_init := goodIn_r _ [20, 21, 2, 3, 12, 22, 23, 24, 25, 26, 27, 28, 29, 30, 31, 32, 33, 34, 35, 36, 37, 43, 44, 45, 46, 63] (by decide +kernel) (by decide +kernel)
set_option maxRecDepth 20000 in
theorem gX5_init_X8_init_n11 : GoodIn wsX5_init (wsX8_init) := ggX5_init_X8_init
set_option maxRecDepth 20000 in
theorem ggX5_init_X4_init : GoodIn wsX5_init wsX4_init := goodIn_r _ [39, 40, 2, 3, 12, 41, 42, 60, 61, 62] (by decide +kernel) (by decide +kernel)
set_option maxRecDepth 20000 in
theorem gX5_init_X4_init_n20 : GoodIn wsX5_init (wsX4_init) := ggX5_init_X4_init
theorem dX5_init_0 : decode cX5_init 0 = .ok (.aload_n 0, 1) := by decide +kernel
theorem dX5_init_1 : decode cX5_init 1 = .ok (.invokespecial 3, 3) := by decide +kernel
theorem dX5_init_4 : decode cX5_init 4 = .ok (.aload_n 0, 1) := by decide +kernel
theorem dX5_init_5 : decode cX5_init 5 = .ok (.new 9, 3) := by decide +kernel
theorem dX5_init_8 : decode cX5_init 8 = .ok (.dup, 1) := by decide +kernel
theorem dX5_init_9 : decode cX5_init 9 = .ok (.invokespecial 11, 3) := by decide +kernel
theorem dX5_init_12 : decode cX5_init 12 = .ok (.putfield 12, 3) := by decide +kernel
theorem dX5_init_15 : decode cX5_init 15 = .ok (.aload_n 0, 1) := by decide +kernel
theorem dX5_init_16 : decode cX5_init 16 = .ok (.new 18, 3) := by decide +kernel
theorem dX5_init_19 : decode cX5_init 19 = .ok (.dup, 1) := by decide +kernel
theorem dX5_init_20 : decode cX5_init 20 = .ok (.invokespecial 20, 3) := by decide +kernel
theorem dX5_init_23 : decode cX5_init 23 = .ok (.putfield 21, 3) := by decide +kernel
theorem dX5_init_26 : decode cX5_init 26 = .ok (.aload_n 0, 1) := by decide +kernel
theorem dX5_init_27 : decode cX5_init 27 = .ok (.iconst 5, 1) := by decide +kernel
theorem dX5_init_28 : decode cX5_init 28 = .ok (.newarray .int, 2) := by decide +kernel
theorem dX5_init_30 : decode cX5_init 30 = .ok (.putfield 25, 3) := by decide +kernel
theorem dX5_init_33 : decode cX5_init 33 = .ok (.aload_n 0, 1) := by decide +kernel
theorem dX5_init_34 : decode cX5_init 34 = .ok (.iconst 5, 1) := by decide +kernel
theorem dX5_init_35 : decode cX5_init 35 = .ok (.newarray .int, 2) := by decide +kernel
theorem dX5_init_37 : decode cX5_init 37 = .ok (.putfield 29, 3) := by decide +kernel
theorem dX5_init_40 : decode cX5_init 40 = .ok (.aload_n 0, 1) := by decide +kernel
theorem dX5_init_41 : decode cX5_init 41 = .ok (.bipush (-2), 2) := by decide +kernel
theorem dX5_init_43 : decode cX5_init 43 = .ok (.putfield 32, 3) := by decide +kernel
theorem dX5_init_46 : decode cX5_init 46 = .ok (.aload_n 0, 1) := by decide +kernel
theorem dX5_init_47 : decode cX5_init 47 = .ok (.iconst (-1), 1) := by decide +kernel
theorem dX5_init_48 : decode cX5_init 48 = .ok (.putfield 36, 3) := by decide +kernel
theorem dX5_init_51 : decode cX5_init 51 = .ok (.aload_n 0, 1) := by decide +kernel
theorem dX5_init_52 : decode cX5_init 52 = .ok (.iconst (-1), 1) := by decide +kernel
theorem dX5_init_53 : decode cX5_init 53 = .ok (.putfield 39, 3) := by decide +kernel
theorem dX5_init_56 : decode cX5_init 56 = .ok (.aload_n 0, 1) := by decide +kernel
theorem dX5_init_57 : decode cX5_init 57 = .ok (.aload_n 1, 1) := by decide +kernel
theorem dX5_init_58 : decode cX5_init 58 = .ok (.putfield 42, 3) := by decide +kernel
theorem dX5_init_61 : decode cX5_init 61 = .ok (.return_, 1) := by decide +kernel
set_option maxRecDepth 20000 in
theorem ggX5_readText_X5_begin : GoodIn wsX5_readText wsX5_begin := goodIn_r _ [10, 11, 12, 13, 4, 14, 15, 1, 5, 16, 17, 2, 18, 19, 20, 21, 22, 23, 24, 25, 26, 27, 28, 29, 30, 31, 32, 33, 34, 35, 36, 37, 38, 39, 40, 41, 42, 43, 44, 45, 46, 47, 48, 49, 50, 51, 52, 53, 54, 55, 56, 57, 58, 59, 60, 61, 62, 63, 64, 65, 66, 67, 68, 69, 70, 71, 72, 73, 240, 241, 242, 243, 244, 245, 246, 247, 248, 249, 250, 251, 252, 260, 261, 262, 263, 264, 265, 266, 267, 253, 254, 255, 256, 257, 258, 259] (by decide +kernel) (by decide +kernel)
set_option maxRecDepth 20000 in
theorem gX5_readText_X5_begin : GoodIn wsX5_readText (wsV RX5 46 RX5 yX5_begin wsX5_begin) := goodIn_app (goodIn_of _ (by decide +kernel)) ggX5_readText_X5_begin
set_option maxRecDepth 20000 in
theorem ggX5_readText_X5_mayStand : GoodIn wsX5_readText wsX5_mayStand := goodIn_r _ [77, 4, 14, 2, 3, 78, 79, 80, 9, 81, 82, 83, 84, 39, 85, 49, 47, 86, 87, 88, 89, 41, 90, 91, 92, 93, 94, 95, 96, 97, 98, 99, 100, 101, 55, 56, 57, 58, 54, 59, 102, 103, 104, 105, 106, 107, 108, 109, 110, 111, 112, 113, 114, 115, 116, 117, 118, 119, 120, 121, 122, 123, 124, 125, 126, 127, 128, 129, 130, 131, 132, 133, 134, 135, 136, 137, 138, 139, 140, 141, 142, 143, 144, 145, 146, 147, 148, 149, 150, 151, 152, 153, 154, 155, 156, 157, 158, 159, 240, 241, 242, 243, 244, 245, 246, 247, 248, 249, 250, 251, 252, 253, 254, 255, 256, 257, 258, 259] (by decide +kernel) (by decide +kernel)
set_option maxRecDepth 20000 in
theorem gX5_readText_X5_mayStand : GoodIn wsX5_readText (wsV RX5 58 RX5 yX5_mayStand wsX5_mayStand) := goodIn_app (goodIn_of _ (by decide +kernel)) ggX5_readText_X5_mayStand
set_option maxRecDepth 20000 in
theorem ggX5_readText_X5_stop : GoodIn wsX5_readText wsX5_stop := goodIn_r _ [163, 1, 164, 165, 166, 9, 167, 5, 2, 168, 16, 15, 17, 240, 241, 242, 243, 244, 245, 246, 247, 248, 249, 250, 251, 252, 253, 254, 255, 256, 257, 258, 259] (by decide +kernel) (by decide +kernel)
set_option maxRecDepth 20000 in
theorem gX5_readText_X5_stop : GoodIn wsX5_readText (wsV RX5 62 RX5 yX5_stop wsX5_stop) := goodIn_app (goodIn_of _ (by decide +kernel)) ggX5_readText_X5_stop
set_option maxRecDepth 20000 in
theorem ggX5_readText_X5_hasRoom : GoodIn wsX5_readText wsX5_hasRoom := goodIn_r _ [172, 2, 173, 4, 12, 13, 3, 11, 174, 15, 78, 79, 80, 9, 81, 82, 83, 84, 39, 85, 49, 47, 86, 87, 88, 89, 41, 90, 91, 92, 93, 94, 95, 96, 97, 98, 99, 100, 101, 55, 56, 57, 58, 54, 59, 102, 103, 104, 105, 106, 107, 108, 109, 110, 111, 112, 113, 114, 115, 116, 117, 118, 119, 120, 121, 122, 123, 124, 125, 126, 127, 128, 129, 130, 131, 132, 133, 134, 135, 136, 137, 138, 240, 241, 242, 243, 244, 245, 246, 247, 248, 249, 250, 251, 252, 253, 254, 255, 256, 257, 258, 259, 260, 261, 262, 263, 264, 265, 266] (by decide +kernel) (by decide +kernel)
set_option maxRecDepth 20000 in
theorem gX5_readText_X5_hasRoom : GoodIn wsX5_readText (wsV RX5 66 RX5 yX5_hasRoom wsX5_hasRoom) := goodIn_app (goodIn_of _ (by decide +kernel)) ggX5_readText_X5_hasRoom
set_option maxRecDepth 20000 in
theorem ggX5_readText_X5_accept : GoodIn wsX5_readText wsX5_accept := goodIn_r _ [178, 4, 11, 179, 159, 180, 181, 182, 9, 183, 15, 78, 79, 80, 81, 2, 82, 83, 84, 39, 85, 49, 47, 86, 87, 88, 89, 41, 90, 91, 92, 93, 94, 95, 96, 97, 98, 99, 100, 101, 55, 56, 57, 58, 54, 59, 102, 103, 104, 105, 106, 107, 108, 109, 110, 111, 112, 113, 114, 115, 116, 117, 118, 119, 120, 121, 122, 123, 124, 125, 126, 127, 128, 129, 130, 131, 132, 133, 134, 135, 136, 137, 138, 184, 185, 186, 187, 12, 13, 188, 189, 168, 190, 191, 192, 193, 194, 195, 196, 197, 5, 164, 165, 166, 167, 16, 17, 198, 199, 200, 201, 202, 203, 204, 205, 206, 207, 208, 209, 210, 211, 212, 28, 213, 214, 215, 216, 32, 33, 34, 35, 155, 156, 157, 158, 147, 148, 149, 150, 151, 152, 153, 154, 217, 218, 219, 220, 3, 14, 221, 222, 223, 224, 225, 226, 227, 21, 228, 23, 229, 230, 231, 232, 233, 234, 235, 236, 237, 238, 240, 241, 242, 243, 244, 245, 246, 247, 248, 249, 250, 251, 252, 263, 264, 265, 266, 253, 254, 255, 256, 257, 258, 259, 260, 261, 262, 267] (by decide +kernel) (by decide +kernel)
set_option maxRecDepth 20000 in
theorem gX5_readText_X5_accept : GoodIn wsX5_readText (wsV RX5 69 RX5 yX5_accept wsX5_accept) := goodIn_app (goodIn_of _ (by decide +kernel)) ggX5_readText_X5_accept
set_option maxRecDepth 20000 in
theorem ggX5_readText_X10_toNextToken : GoodIn wsX5_readText wsX10_toNextToken := goodIn_r _ [46, 41, 47, 42, 48, 49, 50, 51, 52, 39, 53, 54, 55, 56, 57, 58, 59, 60, 61, 62, 63, 64, 65, 66, 67, 68, 69, 70, 71, 72, 73, 253, 254, 255, 256, 257, 258, 259] (by decide +kernel) (by decide +kernel)
set_option maxRecDepth 20000 in
theorem gX5_readText_X10_toNextToken : GoodIn wsX5_readText (wsV RX5 72 RX10 yX10_toNextToken wsX10_toNextToken) := goodIn_app (goodIn_of _ (by decide +kernel)) ggX5_readText_X10_toNextToken
theorem dX5_readText_0 : decode cX5_readText 0 = .ok (.aload_n 0, 1) := by decide +kernel
theorem dX5_readText_1 : decode cX5_readText 1 = .ok (.invokevirtual 46, 3) := by decide +kernel
theorem dX5_readText_4 : decode cX5_readText 4 = .ok (.iconst 0, 1) := by decide +kernel
theorem dX5_readText_5 : decode cX5_readText 5 = .ok (.istore_n 1, 1) := by decide +kernel
theorem dX5_readText_6 : decode cX5_readText 6 = .ok (.iload_n 1, 1) := by decide +kernel
theorem dX5_readText_7 : decode cX5_readText 7 = .ok (.sipush 400, 3) := by decide +kernel
theorem dX5_readText_10 : decode cX5_readText 10 = .ok (.if_icmp .gt 67, 3) := by decide +kernel
theorem dX5_readText_13 : decode cX5_readText 13 = .ok (.aload_n 0, 1) := by decide +kernel
theorem dX5_readText_14 : decode cX5_readText 14 = .ok (.getfield 49, 3) := by decide +kernel
theorem dX5_readText_17 : decode cX5_readText 17 = .ok (.ifCond .ne 60, 3) := by decide +kernel
theorem dX5_readText_20 : decode cX5_readText 20 = .ok (.aload_n 0, 1) := by decide +kernel
theorem dX5_readText_21 : decode cX5_readText 21 = .ok (.getfield 42, 3) := by decide +kernel
theorem dX5_readText_24 : decode cX5_readText 24 = .ok (.getfield 53, 3) := by decide +kernel
theorem dX5_readText_27 : decode cX5_readText 27 = .ok (.ifCond .eq 50, 3) := by decide +kernel
theorem dX5_readText_30 : decode cX5_readText 30 = .ok (.aload_n 0, 1) := by decide +kernel
theorem dX5_readText_31 : decode cX5_readText 31 = .ok (.invokevirtual 58, 3) := by decide +kernel
theorem dX5_readText_34 : decode cX5_readText 34 = .ok (.ifCond .ne 11, 3) := by decide +kernel
theorem dX5_readText_37 : decode cX5_readText 37 = .ok (.aload_n 0, 1) := by decide +kernel
theorem dX5_readText_38 : decode cX5_readText 38 = .ok (.iconst 1, 1) := by decide +kernel
theorem dX5_readText_39 : decode cX5_readText 39 = .ok (.invokevirtual 62, 3) := by decide +kernel
theorem dX5_readText_42 : decode cX5_readText 42 = .ok (.goto 29, 3) := by decide +kernel
theorem dX5_readText_45 : decode cX5_readText 45 = .ok (.aload_n 0, 1) := by decide +kernel
theorem dX5_readText_46 : decode cX5_readText 46 = .ok (.invokevirtual 66, 3) := by decide +kernel
theorem dX5_readText_49 : decode cX5_readText 49 = .ok (.ifCond .ne 11, 3) := by decide +kernel
theorem dX5_readText_52 : decode cX5_readText 52 = .ok (.aload_n 0, 1) := by decide +kernel
theorem dX5_readText_53 : decode cX5_readText 53 = .ok (.iconst 2, 1) := by decide +kernel
theorem dX5_readText_54 : decode cX5_readText 54 = .ok (.invokevirtual 62, 3) := by decide +kernel
theorem dX5_readText_57 : decode cX5_readText 57 = .ok (.goto 14, 3) := by decide +kernel
theorem dX5_readText_60 : decode cX5_readText 60 = .ok (.aload_n 0, 1) := by decide +kernel
theorem dX5_readText_61 : decode cX5_readText 61 = .ok (.invokevirtual 69, 3) := by decide +kernel
theorem dX5_readText_64 : decode cX5_readText 64 = .ok (.aload_n 0, 1) := by decide +kernel
theorem dX5_readText_65 : decode cX5_readText 65 = .ok (.getfield 42, 3) := by decide +kernel
theorem dX5_readText_68 : decode cX5_readText 68 = .ok (.invokevirtual 72, 3) := by decide +kernel
theorem dX5_readText_71 : decode cX5_readText 71 = .ok (.iinc 1 1, 3) := by decide +kernel
theorem dX5_readText_74 : decode cX5_readText 74 = .ok (.goto (-68), 3) := by decide +kernel
theorem dX5_readText_77 : decode cX5_readText 77 = .ok (.aload_n 0, 1) := by decide +kernel
theorem dX5_readText_78 : decode cX5_readText 78 = .ok (.getfield 49, 3) := by decide +kernel
theorem dX5_readText_81 : decode cX5_readText 81 = .ok (.ifCond .ne 15, 3) := by decide +kernel
theorem dX5_readText_84 : decode cX5_readText 84 = .ok (.aload_n 0, 1) := by decide +kernel
theorem dX5_readText_85 : decode cX5_readText 85 = .ok (.getfield 75, 3) := by decide +kernel
theorem dX5_readText_88 : decode cX5_readText 88 = .ok (.ifCond .eq 8, 3) := by decide +kernel
theorem dX5_readText_91 : decode cX5_readText 91 = .ok (.aload_n 0, 1) := by decide +kernel
theorem dX5_readText_92 : decode cX5_readText 92 = .ok (.iconst 1, 1) := by decide +kernel
theorem dX5_readText_93 : decode cX5_readText 93 = .ok (.invokevirtual 62, 3) := by decide +kernel
theorem dX5_readText_96 : decode cX5_readText 96 = .ok (.aload_n 0, 1) := by decide +kernel
theorem dX5_readText_97 : decode cX5_readText 97 = .ok (.getfield 78, 3) := by decide +kernel
theorem dX5_readText_100 : decode cX5_readText 100 = .ok (.ireturn, 1) := by decide +kernel
set_option maxRecDepth 20000 in
theorem ggX5_begin_X8_clear : GoodIn wsX5_begin wsX8_clear := goodIn_r _ [16, 17, 18, 19, 20, 21, 22, 23, 24, 25, 26, 27, 28, 29, 84, 85, 86, 87, 88] (by decide +kernel) (by decide +kernel)
set_option maxRecDepth 20000 in
theorem gX5_begin_X8_clear : GoodIn wsX5_begin (wsV RX5 81 RX8 yX8_clear wsX8_clear) := goodIn_app (goodIn_of _ (by decide +kernel)) ggX5_begin_X8_clear
set_option maxRecDepth 20000 in
theorem ggX5_begin_X10_toFirstToken : GoodIn wsX5_begin wsX10_toFirstToken := goodIn_r _ [34, 35, 36, 37, 38, 39, 33, 40, 41, 42, 43, 44, 45, 46, 47, 48, 49, 50, 51, 52, 53, 54, 55, 56, 57, 58, 59, 60, 61, 62, 63, 64, 65, 66, 67, 89, 90, 91, 92, 93, 94, 95] (by decide +kernel) (by decide +kernel)
set_option maxRecDepth 20000 in
theorem gX5_begin_X10_toFirstToken : GoodIn wsX5_begin (wsV RX5 90 RX10 yX10_toFirstToken wsX10_toFirstToken) := goodIn_app (goodIn_of _ (by decide +kernel)) ggX5_begin_X10_toFirstToken
